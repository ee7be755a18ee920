section
/-! THE ROW OF CELLS, PURE: objects one behind another; where they stand; what is reached; what a slide makes of them -/
/-- an object: how many fields, how many words, its number (0: none yet), its contents (fields, then words) -/
abbrev sr_O : Type := Nat × Nat × Int32 × (Nat → Int32)
def sr_sz (o : sr_O) : Nat := 3 + o.1 + o.2.1
def sr_tot : List sr_O → Nat
  | [] => 0
  | o :: os => sr_sz o + sr_tot os
/-- at p stands the object x, where the first of them stands at a -/
def sr_ob : Nat → List sr_O → Nat → sr_O → Prop
  | _, [], _, _ => False
  | a, o :: os, p, x => (p = a ∧ x = o) ∨ sr_ob (a + sr_sz o) os p x
def sr_ok (os : List sr_O) : Prop := ∀ o ∈ os, o.1 ≤ 2000 ∧ o.2.1 ≤ 2000
theorem sr_sz3 (o : sr_O) : 3 ≤ sr_sz o := by unfold sr_sz; omega
theorem sr_tot_app : ∀ (xs ys : List sr_O), sr_tot (xs ++ ys) = sr_tot xs + sr_tot ys
  | [], ys => by simp [sr_tot]
  | x :: xs, ys => by
    simp only [List.cons_append, sr_tot, sr_tot_app xs ys]
    omega
theorem sr_len_tot : ∀ (os : List sr_O), 3 * os.length ≤ sr_tot os
  | [] => by simp [sr_tot]
  | o :: os => by
    have h := sr_len_tot os
    have h2 := sr_sz3 o
    simp only [List.length_cons, sr_tot]
    omega
theorem sr_ob_app : ∀ (xs ys : List sr_O) (a p : Nat) (o : sr_O), sr_ob a (xs ++ ys) p o ↔ sr_ob a xs p o ∨ sr_ob (a + sr_tot xs) ys p o
  | [], ys, a, p, o => by simp [sr_ob, sr_tot]
  | x :: xs, ys, a, p, o => by
    simp only [List.cons_append, sr_ob, sr_tot, sr_ob_app xs ys (a + sr_sz x) p o, Nat.add_assoc, or_assoc]
theorem sr_ob_bd : ∀ (os : List sr_O) (a p : Nat) (o : sr_O), sr_ob a os p o → a ≤ p ∧ p + sr_sz o ≤ a + sr_tot os
  | [], _, _, _, h => h.elim
  | x :: xs, a, p, o, h => by
    have h3 := sr_sz3 x
    simp only [sr_tot]
    rcases h with ⟨rfl, rfl⟩ | h
    · omega
    · have := sr_ob_bd xs _ _ _ h
      omega
theorem sr_ob_mem : ∀ (os : List sr_O) (a p : Nat) (o : sr_O), sr_ob a os p o → o ∈ os
  | [], _, _, _, h => h.elim
  | x :: xs, a, p, o, h => by
    rcases h with ⟨-, rfl⟩ | h
    · exact List.mem_cons_self
    · exact List.mem_cons_of_mem _ (sr_ob_mem xs _ _ _ h)
/-- two of them are one, or stand apart -/
theorem sr_ob_sep : ∀ (os : List sr_O) (a p q : Nat) (o x : sr_O), sr_ob a os p o → sr_ob a os q x → (p = q ∧ o = x) ∨ p + sr_sz o ≤ q ∨ q + sr_sz x ≤ p
  | [], _, _, _, _, _, h, _ => h.elim
  | y :: ys, a, p, q, o, x, h, g => by
    rcases h with ⟨rfl, rfl⟩ | h <;> rcases g with ⟨hq, rfl⟩ | g
    · exact Or.inl ⟨hq.symm, rfl⟩
    · exact Or.inr (Or.inl (sr_ob_bd ys _ _ _ g).1)
    · subst hq
      exact Or.inr (Or.inr (sr_ob_bd ys _ _ _ h).1)
    · exact sr_ob_sep ys _ _ _ _ _ h g
theorem sr_ob_eq {os : List sr_O} {a p : Nat} {o x : sr_O} (h : sr_ob a os p o) (g : sr_ob a os p x) : o = x := by
  rcases sr_ob_sep os a p p o x h g with h1 | h1 | h1
  · exact h1.2
  · have := sr_sz3 o
    omega
  · have := sr_sz3 x
    omega
theorem sr_ob_split : ∀ (os : List sr_O) (a p : Nat) (o : sr_O), sr_ob a os p o → ∃ xs ys, os = xs ++ o :: ys ∧ p = a + sr_tot xs
  | [], _, _, _, h => h.elim
  | x :: xs, a, p, o, h => by
    rcases h with ⟨rfl, rfl⟩ | h
    · exact ⟨[], xs, rfl, by simp [sr_tot]⟩
    · obtain ⟨us, vs, h1, h2⟩ := sr_ob_split xs _ _ _ h
      exact ⟨x :: us, vs, by rw [h1]; rfl, by rw [h2, sr_tot]; omega⟩
theorem sr_ob_mid (xs : List sr_O) (o : sr_O) (ys : List sr_O) (a : Nat) : sr_ob a (xs ++ o :: ys) (a + sr_tot xs) o :=
  (sr_ob_app xs (o :: ys) a _ o).mpr (Or.inr (Or.inl ⟨rfl, rfl⟩))
/-! what a reads of the class's cells, of the model's arrays -/
def sr_ce (C : Nat → Int32) (p : Nat) (o : sr_O) : Prop := C p = nI (o.1 * 4096 + o.2.1) ∧ C (p + 1) = o.2.2.1 ∧ ∀ i, i < o.1 + o.2.1 → C (p + 3 + i) = o.2.2.2 i
def sr_hc (C : Nat → Int32) (a : Nat) (os : List sr_O) : Prop := ∀ p o, sr_ob a os p o → sr_ce C p o
theorem sr_hc_cons {C : Nat → Int32} {a : Nat} {o : sr_O} {os : List sr_O} : sr_hc C a (o :: os) ↔ sr_ce C a o ∧ sr_hc C (a + sr_sz o) os := by
  constructor
  · intro h
    exact ⟨h a o (Or.inl ⟨rfl, rfl⟩), fun p x hx => h p x (Or.inr hx)⟩
  · intro h p x hx
    rcases hx with ⟨rfl, rfl⟩ | hx
    · exact h.1
    · exact h.2 p x hx
theorem sr_hc_app {C : Nat → Int32} {a : Nat} {xs ys : List sr_O} : sr_hc C a (xs ++ ys) ↔ sr_hc C a xs ∧ sr_hc C (a + sr_tot xs) ys := by
  constructor
  · intro h
    exact ⟨fun p x hx => h p x ((sr_ob_app _ _ _ _ _).mpr (Or.inl hx)), fun p x hx => h p x ((sr_ob_app _ _ _ _ _).mpr (Or.inr hx))⟩
  · intro h p x hx
    rcases (sr_ob_app _ _ _ _ _).mp hx with hx | hx
    · exact h.1 p x hx
    · exact h.2 p x hx
theorem sr_ce_frame {C C' : Nat → Int32} {p : Nat} {o : sr_O} (h : sr_ce C p o) (hq : ∀ q, p ≤ q → q < p + sr_sz o → q ≠ p + 2 → C' q = C q) : sr_ce C' p o := by
  have hs : sr_sz o = 3 + o.1 + o.2.1 := rfl
  refine ⟨?_, ?_, fun i hi => ?_⟩
  · rw [hq p (Nat.le_refl _) (by omega) (by omega)]; exact h.1
  · rw [hq (p + 1) (by omega) (by omega) (by omega)]; exact h.2.1
  · rw [hq (p + 3 + i) (by omega) (by omega) (by omega)]; exact h.2.2 i hi
theorem sr_hc_frame {C C' : Nat → Int32} {a : Nat} {os : List sr_O} (h : sr_hc C a os) (hq : ∀ q, a ≤ q → q < a + sr_tot os → (∀ p o, sr_ob a os p o → q ≠ p + 2) → C' q = C q) : sr_hc C' a os := by
  intro p o ho
  have hb := sr_ob_bd os a p o ho
  refine sr_ce_frame (h p o ho) fun q h1 h2 h3 => hq q (by omega) (by omega) fun p' o' ho' hqe => ?_
  have h5 := sr_sz3 o'
  have h6 := sr_sz3 o
  rcases sr_ob_sep os a p p' o o' ho ho' with h4 | h4 | h4
  · exact h3 (by omega)
  · omega
  · omega
/-! reads and writes of the class: guarded -/
def sr_rd (N : Nat) (C : Nat → Int32) (i : Int32) : Int32 := if i < 1 then 0 else if nI N ≤ i then 0 else C i.toNatClampNeg
def sr_wr (N : Nat) (C : Nat → Int32) (i v : Int32) : Nat → Int32 := if i < 1 then C else if nI N ≤ i then C else upd C i.toNatClampNeg v
theorem sr_n1 {a : Nat} (h1 : 1 ≤ a) (h : a < 2 ^ 31) : ¬ nI a < 1 := nI_nlt (a := a) (b := 1) h1 h
theorem sr_rd_in {N : Nat} {C : Nat → Int32} {a : Nat} (h1 : 1 ≤ a) (h2 : a < N) (hN : N < 2 ^ 31) : sr_rd N C (nI a) = C a := by
  unfold sr_rd
  rw [if_neg (sr_n1 h1 (by omega)), if_neg (nI_ge h2 hN), nI_clamp (by omega)]
theorem sr_wr_in {N : Nat} {C : Nat → Int32} {a : Nat} {v : Int32} (h1 : 1 ≤ a) (h2 : a < N) (hN : N < 2 ^ 31) : sr_wr N C (nI a) v = upd C a v := by
  unfold sr_wr
  rw [if_neg (sr_n1 h1 (by omega)), if_neg (nI_ge h2 hN), nI_clamp (by omega)]
theorem sr_p (a b : Nat) : nI a + nI b = nI (a + b) := nI_add a b
/-- the shape's two halves -/
theorem sr_shr {f w : Nat} (hf : f ≤ 2000) (hw : w ≤ 2000) : nI (f * 4096 + w) >>> ((12 : Int32) &&& 31) = nI f := by
  rw [pk_shrN (by omega) _ 12 (by decide +kernel)]
  congr 1
  omega
theorem sr_and {f w : Nat} (hf : f ≤ 2000) (hw : w ≤ 2000) : nI (f * 4096 + w) &&& (4095 : Int32) = nI w := by
  rw [pk_andN (by omega) 12 (by decide +kernel)]
  congr 1
  omega
theorem sr_or {f w : Nat} (hf : f ≤ 2000) (hw : w ≤ 2000) : nI f <<< ((12 : Int32) &&& 31) ||| nI w = nI (f * 4096 + w) := by
  rw [pk_shlN _ 12 (by decide +kernel) (by omega)]
  apply Int32.toBitVec_inj.mp
  apply BitVec.eq_of_toNat_eq
  rw [Int32.toBitVec_or, BitVec.toNat_or, pk_tn (by omega), pk_tn (by omega), pk_tn (by omega)]
  have := Nat.two_pow_add_eq_or_of_lt (i := 12) (b := w) (by omega) f
  rw [Nat.mul_comm f (2 ^ 12), ← this]
/-- sizeOf, as the class counts it -/
def sr_si (N : Nat) (C : Nat → Int32) (a : Int32) : Int32 := 3 + (sr_rd N C (a + 0) >>> ((12 : Int32) &&& 31)) + (sr_rd N C (a + 0) &&& 4095)
def sr_fi (N : Nat) (C : Nat → Int32) (a : Int32) : Int32 := sr_rd N C (a + 0) >>> ((12 : Int32) &&& 31)
def sr_wi (N : Nat) (C : Nat → Int32) (a : Int32) : Int32 := sr_rd N C (a + 0) &&& 4095
theorem sr_a0 (a : Nat) : nI a + 0 = nI a := nI_add a 0
section Cells
variable {N : Nat} {C : Nat → Int32} {p : Nat} {o : sr_O}
theorem sr_fi_eq (h : sr_ce C p o) (hk : o.1 ≤ 2000 ∧ o.2.1 ≤ 2000) (h1 : 1 ≤ p) (h2 : p < N) (hN : N < 2 ^ 31) : sr_fi N C (nI p) = nI o.1 := by
  unfold sr_fi
  rw [sr_a0, sr_rd_in h1 h2 hN, h.1, sr_shr hk.1 hk.2]
theorem sr_wi_eq (h : sr_ce C p o) (hk : o.1 ≤ 2000 ∧ o.2.1 ≤ 2000) (h1 : 1 ≤ p) (h2 : p < N) (hN : N < 2 ^ 31) : sr_wi N C (nI p) = nI o.2.1 := by
  unfold sr_wi
  rw [sr_a0, sr_rd_in h1 h2 hN, h.1, sr_and hk.1 hk.2]
theorem sr_si_eq (h : sr_ce C p o) (hk : o.1 ≤ 2000 ∧ o.2.1 ≤ 2000) (h1 : 1 ≤ p) (h2 : p < N) (hN : N < 2 ^ 31) : sr_si N C (nI p) = nI (sr_sz o) := by
  show 3 + sr_fi N C (nI p) + sr_wi N C (nI p) = _
  rw [sr_fi_eq h hk h1 h2 hN, sr_wi_eq h hk h1 h2 hN]
  show nI 3 + nI o.1 + nI o.2.1 = _
  rw [nI_add, nI_add]
  rfl
end Cells
end
section
/-! THE CLASS'S LOOPS, PURE -/
/-- isObject: a walk from the first object -/
def sr_isO (N : Nat) (C : Nat → Int32) (x : Int32) : Nat → Int32 → Bool
  | 0, _ => false
  | n + 1, a => if x < a then false else if a = x then true else sr_isO N C x n (a + sr_si N C a)
theorem sr_isO_iff {N : Nat} {C : Nat → Int32} {x : Int32} (hN : N < 2 ^ 31) : ∀ (os : List sr_O) (a : Nat), sr_hc C a os → sr_ok os → 1 ≤ a → a + sr_tot os ≤ N →
    (sr_isO N C x os.length (nI a) = true ↔ ∃ p o, sr_ob a os p o ∧ x = nI p)
  | [], a, _, _, _, _ => by simp [sr_isO, sr_ob]
  | o :: os, a, hc, hk, h1, h2 => by
    have h3 := sr_sz3 o
    simp only [sr_tot] at h2
    have hce := sr_hc_cons.mp hc
    have ih := sr_isO_iff (x := x) hN os (a + sr_sz o) hce.2 (fun y hy => hk y (List.mem_cons_of_mem _ hy)) (by omega) (by omega)
    show (if x < nI a then false else if nI a = x then true else sr_isO N C x os.length (nI a + sr_si N C (nI a))) = true ↔ _
    rw [sr_si_eq hce.1 (hk o List.mem_cons_self) h1 (by omega) hN, nI_add]
    by_cases hx : x < nI a
    · rw [if_pos hx]
      constructor
      · intro h; cases h
      · rintro ⟨p, y, hy, rfl⟩
        have hb := sr_ob_bd _ _ _ _ hy
        simp only [sr_tot] at hb
        have h5 := sr_sz3 y
        exact absurd ((nI_ltI (by omega) (by omega)).mp hx) (by omega)
    · rw [if_neg hx]
      by_cases he : nI a = x
      · rw [if_pos he]
        exact ⟨fun _ => ⟨a, o, Or.inl ⟨rfl, rfl⟩, he.symm⟩, fun _ => rfl⟩
      · rw [if_neg he, ih]
        constructor
        · rintro ⟨p, y, hy, hp⟩
          exact ⟨p, y, Or.inr hy, hp⟩
        · rintro ⟨p, y, hy | hy, hp⟩
          · exact absurd (by rw [hp, hy.1]) he
          · exact ⟨p, y, hy, hp⟩
/-- find: a walk from the first object -/
def sr_fn (N : Nat) (C : Nat → Int32) (x : Int32) : Nat → Int32 → Int32
  | 0, _ => 0
  | n + 1, a => if sr_rd N C (a + 1) - 1 = x then a else sr_fn N C x n (a + sr_si N C a)
def sr_fa (x : Int32) : Nat → List sr_O → Nat
  | _, [] => 0
  | a, o :: os => if o.2.2.1 = x + 1 then a else sr_fa x (a + sr_sz o) os
theorem sr_m1 (y x : Int32) : y - 1 = x ↔ y = x + 1 := by
  constructor
  · intro h; rw [← h, Int32.sub_add_cancel]
  · intro h; rw [h, Int32.add_sub_cancel]
theorem sr_fn_eq {N : Nat} {C : Nat → Int32} {x : Int32} (hN : N < 2 ^ 31) : ∀ (os : List sr_O) (a : Nat), sr_hc C a os → sr_ok os → 1 ≤ a → a + sr_tot os ≤ N →
    sr_fn N C x os.length (nI a) = nI (sr_fa x a os)
  | [], a, _, _, _, _ => rfl
  | o :: os, a, hc, hk, h1, h2 => by
    have h3 := sr_sz3 o
    simp only [sr_tot] at h2
    have hce := sr_hc_cons.mp hc
    have ih := sr_fn_eq (x := x) hN os (a + sr_sz o) hce.2 (fun y hy => hk y (List.mem_cons_of_mem _ hy)) (by omega) (by omega)
    show (if sr_rd N C (nI a + 1) - 1 = x then nI a else sr_fn N C x os.length (nI a + sr_si N C (nI a))) = nI (if o.2.2.1 = x + 1 then a else sr_fa x (a + sr_sz o) os)
    rw [sr_si_eq hce.1 (hk o List.mem_cons_self) h1 (by omega) hN, nI_add, ih, show nI a + 1 = nI (a + 1) from nI_1 a, sr_rd_in (by omega) (by omega) hN, hce.1.2.1]
    by_cases he : o.2.2.1 = x + 1
    · rw [if_pos he, if_pos ((sr_m1 _ _).mpr he)]
    · rw [if_neg he, if_neg (fun h => he ((sr_m1 _ _).mp h))]
/-- clearCells -/
def sr_cc (N : Nat) (a : Int32) : Nat → Nat → (Nat → Int32) → Nat → Int32
  | 0, _, C => C
  | n + 1, i, C => sr_cc N a n (i + 1) (sr_wr N C (a + nI i) 0)
theorem sr_cc_eq {N : Nat} (hN : N < 2 ^ 31) {a : Nat} (h1 : 1 ≤ a) : ∀ (n i : Nat) (C : Nat → Int32), a + i + n ≤ N → ∀ q, sr_cc N (nI a) n i C q = if a + i ≤ q ∧ q < a + i + n then 0 else C q
  | 0, i, C, _, q => by
    rw [if_neg (by omega)]; rfl
  | n + 1, i, C, h, q => by
    show sr_cc N (nI a) n (i + 1) (sr_wr N C (nI a + nI i) 0) q = _
    rw [nI_add, sr_wr_in (by omega) (by omega) hN, sr_cc_eq hN h1 n (i + 1) _ (by omega) q]
    by_cases hq : a + (i + 1) ≤ q ∧ q < a + (i + 1) + n
    · rw [if_pos hq, if_pos (by omega)]
    · rw [if_neg hq]
      by_cases hq2 : q = a + i
      · rw [if_pos (by omega), hq2]; exact pk_us
      · rw [if_neg (by omega)]; exact pk_un hq2
/-- clearLinks -/
def sr_clr (N : Nat) : Nat → (Nat → Int32) → Int32 → Nat → Int32
  | 0, C, _ => C
  | n + 1, C, a => sr_clr N n (sr_wr N C (a + 2) 0) (a + sr_si N (sr_wr N C (a + 2) 0) a)
/-- nothing but links has changed -/
def sr_lo (a : Nat) (os : List sr_O) (C C' : Nat → Int32) : Prop := ∀ q, (∀ p o, sr_ob a os p o → q ≠ p + 2) → C' q = C q
theorem sr_lo.hc {a : Nat} {os : List sr_O} {C C' : Nat → Int32} (h : sr_lo a os C C') (hc : sr_hc C a os) : sr_hc C' a os := sr_hc_frame hc fun q _ _ hq => h q hq
theorem sr_lo.rf {a : Nat} {os : List sr_O} {C : Nat → Int32} : sr_lo a os C C := fun _ _ => rfl
theorem sr_lo.tr {a : Nat} {os : List sr_O} {C C' C'' : Nat → Int32} (h : sr_lo a os C C') (g : sr_lo a os C' C'') : sr_lo a os C C'' := fun q hq => (g q hq).trans (h q hq)
theorem sr_lo.put {a p : Nat} {os : List sr_O} {o : sr_O} {C : Nat → Int32} (ho : sr_ob a os p o) (v : Int32) : sr_lo a os C (upd C (p + 2) v) := fun q hq => pk_un (hq p o ho)
theorem sr_lo.tail {a : Nat} {o : sr_O} {os : List sr_O} {C C' : Nat → Int32} (h : sr_lo (a + sr_sz o) os C C') : sr_lo a (o :: os) C C' := fun q hq => h q fun p x hx => hq p x (Or.inr hx)
theorem sr_clr_eq {N : Nat} (hN : N < 2 ^ 31) : ∀ (os : List sr_O) (a : Nat) (C : Nat → Int32), sr_hc C a os → sr_ok os → 1 ≤ a → a + sr_tot os ≤ N →
    sr_lo a os C (sr_clr N os.length C (nI a)) ∧ ∀ p o, sr_ob a os p o → sr_clr N os.length C (nI a) (p + 2) = 0
  | [], a, C, _, _, _, _ => ⟨sr_lo.rf, fun _ _ h => h.elim⟩
  | o :: os, a, C, hc, hk, h1, h2 => by
    have h3 := sr_sz3 o
    simp only [sr_tot] at h2
    have h0 : sr_ob a (o :: os) a o := Or.inl ⟨rfl, rfl⟩
    have hc1 := (sr_lo.put (C := C) h0 0).hc hc
    have hce := sr_hc_cons.mp hc1
    have ih := sr_clr_eq hN os (a + sr_sz o) (upd C (a + 2) 0) hce.2 (fun y hy => hk y (List.mem_cons_of_mem _ hy)) (by omega) (by omega)
    have e : sr_clr N (o :: os).length C (nI a) = sr_clr N os.length (upd C (a + 2) 0) (nI (a + sr_sz o)) := by
      show sr_clr N os.length (sr_wr N C (nI a + 2) 0) (nI a + sr_si N (sr_wr N C (nI a + 2) 0) (nI a)) = _
      rw [show nI a + 2 = nI (a + 2) from nI_add a 2, sr_wr_in (by omega) (by omega) hN, sr_si_eq hce.1 (hk o List.mem_cons_self) h1 (by omega) hN, nI_add]
    rw [e]
    refine ⟨(sr_lo.put h0 0).tr ih.1.tail, ?_⟩
    rintro p x (⟨rfl, rfl⟩ | hx)
    · rw [ih.1 (p + 2) (fun q y hy hq => by have := (sr_ob_bd _ _ _ _ hy).1; omega)]
      exact pk_us
    · exact ih.2 p x hx
end
section
/-! WHAT IS REACHED, PURE; the class's chain -/
def sr_kp (m : Nat → Bool) : Nat → List sr_O → List sr_O
  | _, [] => []
  | a, o :: os => if m a = true then o :: sr_kp m (a + sr_sz o) os else sr_kp m (a + sr_sz o) os
theorem sr_kp_congr {m m' : Nat → Bool} : ∀ (os : List sr_O) (a : Nat), (∀ p o, sr_ob a os p o → m p = m' p) → sr_kp m a os = sr_kp m' a os
  | [], _, _ => rfl
  | o :: os, a, h => by
    have e := h a o (Or.inl ⟨rfl, rfl⟩)
    simp only [sr_kp, e, sr_kp_congr os (a + sr_sz o) (fun p x hx => h p x (Or.inr hx))]
theorem sr_kp_len {m : Nat → Bool} : ∀ (os : List sr_O) (a : Nat), (sr_kp m a os).length ≤ os.length
  | [], _ => Nat.le_refl _
  | o :: os, a => by
    have h := sr_kp_len (m := m) os (a + sr_sz o)
    simp only [sr_kp]
    split
    · simp only [List.length_cons]; omega
    · simp only [List.length_cons]; omega
theorem sr_kp_tot {m : Nat → Bool} : ∀ (os : List sr_O) (a : Nat), sr_tot (sr_kp m a os) ≤ sr_tot os
  | [], _ => Nat.le_refl _
  | o :: os, a => by
    have h := sr_kp_tot (m := m) os (a + sr_sz o)
    simp only [sr_kp]
    split
    · simp only [sr_tot]; omega
    · simp only [sr_tot]; omega
theorem sr_kp_app {m : Nat → Bool} : ∀ (xs ys : List sr_O) (a : Nat), sr_kp m a (xs ++ ys) = sr_kp m a xs ++ sr_kp m (a + sr_tot xs) ys
  | [], ys, a => by simp [sr_kp, sr_tot]
  | x :: xs, ys, a => by
    have h := sr_kp_app (m := m) xs ys (a + sr_sz x)
    rw [show a + sr_sz x + sr_tot xs = a + sr_tot (x :: xs) from by simp only [sr_tot]; omega] at h
    simp only [List.cons_append, sr_kp, h]
    split <;> simp
theorem sr_kp_mem {m : Nat → Bool} : ∀ (os : List sr_O) (a : Nat), ∀ x ∈ sr_kp m a os, x ∈ os
  | [], _, x, h => h
  | o :: os, a, x, h => by
    simp only [sr_kp] at h
    split at h
    · rcases List.mem_cons.mp h with rfl | h
      · exact List.mem_cons_self
      · exact List.mem_cons_of_mem _ (sr_kp_mem os _ x h)
    · exact List.mem_cons_of_mem _ (sr_kp_mem os _ x h)
theorem sr_kp_add {m m' : Nat → Bool} {x : Nat} (hx : m x = false) (hx' : m' x = true) (hne : ∀ p, p ≠ x → m' p = m p) : ∀ (os : List sr_O) (a : Nat) (o : sr_O), sr_ob a os x o → (sr_kp m' a os).length = (sr_kp m a os).length + 1
  | [], _, _, h => h.elim
  | y :: ys, a, o, h => by
    rcases h with ⟨rfl, rfl⟩ | h
    · have e := sr_kp_congr (m := m') (m' := m) ys (x + sr_sz o) (fun p z hz => hne p (by have h1 := (sr_ob_bd _ _ _ _ hz).1; have h2 := sr_sz3 o; omega))
      simp only [sr_kp, hx, hx', e]
      simp
    · have h1 := (sr_ob_bd _ _ _ _ h).1
      have h2 := sr_sz3 y
      have e := hne a (by omega)
      have ih := sr_kp_add hx hx' hne ys (a + sr_sz y) o h
      simp only [sr_kp, e]
      split
      · simp only [List.length_cons, ih]
      · exact ih
/-- a set of addresses that holds what the roots tell, and with an object what its fields tell -/
def sr_cl (os : List sr_O) (rt : Nat → Int32) (S : Nat → Prop) : Prop :=
  (∀ r, r < 16 → ∀ p o, sr_ob 1 os p o → rt r = nI p → S p) ∧ ∀ p o, sr_ob 1 os p o → S p → ∀ i, i < o.1 → ∀ q x, sr_ob 1 os q x → o.2.2.2 i = nI q → S q
def sr_R (os : List sr_O) (rt : Nat → Int32) (p : Nat) : Prop := ∀ S : Nat → Prop, sr_cl os rt S → S p
theorem sr_R_cl (os : List sr_O) (rt : Nat → Int32) : sr_cl os rt (sr_R os rt) :=
  ⟨fun r hr p o hp he S hS => hS.1 r hr p o hp he, fun p o hp h i hi q x hq he S hS => hS.2 p o hp (h S hS) i hi q x hq he⟩
noncomputable def sr_b (P : Prop) : Bool := @decide P (Classical.propDecidable P)
theorem sr_b_iff {P : Prop} : sr_b P = true ↔ P := by
  unfold sr_b
  exact @decide_eq_true_iff P (Classical.propDecidable P)
theorem sr_b_not {P : Prop} : sr_b P = false ↔ ¬ P := by
  cases h : sr_b P with
  | true => simp [sr_b_iff.mp h]
  | false => simp; intro q; rw [sr_b_iff.mpr q] at h; cases h
noncomputable def sr_m (os : List sr_O) (rt : Nat → Int32) : Nat → Bool := fun p => sr_b (sr_R os rt p)
/-- an address that is nothing or an object's -/
def sr_ad (os : List sr_O) (v : Int32) : Prop := v = 0 ∨ ∃ p o, sr_ob 1 os p o ∧ v = nI p
def sr_va (os : List sr_O) (rt : Nat → Int32) : Prop := (∀ r, r < 16 → sr_ad os (rt r)) ∧ ∀ p o, sr_ob 1 os p o → ∀ i, i < o.1 → sr_ad os (o.2.2.2 i)
/-! the class's chain: cells, first, last, how many -/
abbrev sr_Q : Type := (Nat → Int32) × Int32 × Int32 × Int32
def sr_rch (N : Nat) (q : sr_Q) (a : Int32) : sr_Q :=
  if a = 0 then q else if sr_rd N q.1 (a + 2) = 0 then
    (if q.2.1 = 0 then (sr_wr N q.1 (a + 2) (-1), a, a, q.2.2.2 + 1) else (sr_wr N (sr_wr N q.1 (a + 2) (-1)) (q.2.2.1 + 2) a, q.2.1, a, q.2.2.2 + 1))
  else q
def sr_rcf (N : Nat) (a : Int32) : Nat → Nat → sr_Q → sr_Q
  | 0, _, q => q
  | n + 1, i, q => sr_rcf N a n (i + 1) (sr_rch N q (sr_rd N q.1 (a + 3 + nI i)))
def sr_rcr (N : Nat) (rt : Nat → Int32) : Nat → Nat → sr_Q → sr_Q
  | 0, _, q => q
  | n + 1, i, q => sr_rcr N rt n (i + 1) (sr_rch N q (rt i))
def sr_chn (N : Nat) : Nat → Int32 → sr_Q → sr_Q
  | 0, _, q => q
  | n + 1, a, q => if a ≤ 0 then q else sr_chn N n (sr_rd N (sr_rcf N a (sr_fi N q.1 a).toNatClampNeg 0 q).1 (a + 2)) (sr_rcf N a (sr_fi N q.1 a).toNatClampNeg 0 q)
def sr_lk (C : Nat → Int32) : List Nat → Prop
  | [] => True
  | [x] => C (x + 2) = -1
  | x :: y :: t => C (x + 2) = nI y ∧ sr_lk C (y :: t)
theorem sr_lk_snoc {C C' : Nat → Int32} {x z : Nat} (h1 : C' (z + 2) = nI x) (h2 : C' (x + 2) = -1) : ∀ (L : List Nat), sr_lk C (L ++ [z]) → (∀ y ∈ L, C' (y + 2) = C (y + 2)) → sr_lk C' (L ++ [z] ++ [x])
  | [], _, _ => ⟨h1, h2⟩
  | [y], h, g => ⟨(g y List.mem_cons_self).trans h.1, h1, h2⟩
  | y :: w :: t, h, g => ⟨(g y List.mem_cons_self).trans h.1, sr_lk_snoc h1 h2 (w :: t) h.2 (fun v hv => g v (List.mem_cons_of_mem _ hv))⟩
theorem sr_lk_next {C : Nat → Int32} {x y : Nat} {t : List Nat} : ∀ (L : List Nat), sr_lk C (L ++ x :: y :: t) → C (x + 2) = nI y
  | [], h => h.1
  | [_], h => h.2.1
  | _ :: w :: u, h => sr_lk_next (w :: u) h.2
theorem sr_lk_last {C : Nat → Int32} {x : Nat} : ∀ (L : List Nat), sr_lk C (L ++ [x]) → C (x + 2) = -1
  | [], h => h
  | [_], h => h.2
  | _ :: w :: u, h => sr_lk_last (w :: u) h.2
def sr_J (os : List sr_O) (rt : Nat → Int32) (q : sr_Q) (L : List Nat) : Prop :=
  sr_hc q.1 1 os ∧ (∀ x ∈ L, ∃ o, sr_ob 1 os x o) ∧ L.Nodup ∧ (∀ p o, sr_ob 1 os p o → (q.1 (p + 2) = 0 ↔ p ∉ L)) ∧ sr_lk q.1 L ∧
  ((L = [] ∧ q.2.1 = 0) ∨ ∃ x t L' z, L = x :: t ∧ L = L' ++ [z] ∧ q.2.1 = nI x ∧ q.2.2.1 = nI z) ∧ q.2.2.2 = nI L.length ∧ (∀ x ∈ L, sr_R os rt x) ∧
  (sr_kp (fun p => decide (p ∈ L)) 1 os).length = L.length
section Reach
variable {N : Nat} {os : List sr_O} {rt : Nat → Int32}
theorem sr_ne0 {x : Nat} (h : 1 ≤ x) (h2 : x < 2 ^ 31) : nI x ≠ 0 := nI_ne0 h h2
theorem sr_m10 : (-1 : Int32) ≠ 0 := by decide
theorem sr_J_rch (hN : N < 2 ^ 31) (hb : 1 + sr_tot os ≤ N) {q : sr_Q} {L : List Nat} (J : sr_J os rt q L) {x : Nat} {o : sr_O} (ho : sr_ob 1 os x o) (hR : sr_R os rt x) :
    ∃ E, sr_J os rt (sr_rch N q (nI x)) (L ++ E) ∧ x ∈ L ++ E := by
  obtain ⟨C, fr, la, re⟩ := q
  obtain ⟨hc, hL, hnd, hmk, hlk, hends, hre, hLR, hcnt⟩ := J
  dsimp only at hc hmk hlk hends hre
  have hbd := sr_ob_bd _ _ _ _ ho
  have h3 := sr_sz3 o
  have hx0 : nI x ≠ 0 := sr_ne0 hbd.1 (by omega)
  have erd : sr_rd N C (nI x + 2) = C (x + 2) := by rw [show nI x + 2 = nI (x + 2) from nI_add x 2, sr_rd_in (by omega) (by omega) hN]
  by_cases hm : x ∈ L
  · refine ⟨[], ?_, by simpa using hm⟩
    have e : sr_rch N (C, fr, la, re) (nI x) = (C, fr, la, re) := by
      unfold sr_rch
      rw [if_neg hx0]
      dsimp only
      rw [erd, if_neg (fun h => (hmk x o ho).mp h hm)]
    rw [e, List.append_nil]
    exact ⟨hc, hL, hnd, hmk, hlk, hends, hre, hLR, hcnt⟩
  · have hC0 : C (x + 2) = 0 := (hmk x o ho).mpr hm
    have ewr : ∀ v, sr_wr N C (nI x + 2) v = upd C (x + 2) v := fun v => by rw [show nI x + 2 = nI (x + 2) from nI_add x 2, sr_wr_in (by omega) (by omega) hN]
    have hcnt' : (sr_kp (fun p => decide (p ∈ L ++ [x])) 1 os).length = (L ++ [x]).length := by
      rw [sr_kp_add (m := fun p => decide (p ∈ L)) (m' := fun p => decide (p ∈ L ++ [x])) (x := x) (by simpa using hm) (by simp) (fun p hp => by simp [hp]) os 1 o ho, hcnt]
      simp
    have hnd' : (L ++ [x]).Nodup := by
      rw [List.nodup_append]
      refine ⟨hnd, by simp, fun a ha b hb => ?_⟩
      rw [List.mem_singleton.mp hb]
      exact fun h => hm (h ▸ ha)
    have hL' : ∀ y ∈ L ++ [x], ∃ o, sr_ob 1 os y o := fun y hy => by
      rcases List.mem_append.mp hy with h | h
      · exact hL y h
      · rw [List.mem_singleton.mp h]; exact ⟨o, ho⟩
    have hLR' : ∀ y ∈ L ++ [x], sr_R os rt y := fun y hy => by
      rcases List.mem_append.mp hy with h | h
      · exact hLR y h
      · rw [List.mem_singleton.mp h]; exact hR
    have hre' : re + 1 = nI (L ++ [x]).length := by rw [hre, List.length_append]; exact nI_1 _
    refine ⟨[x], ?_, by simp⟩
    rcases hends with ⟨hLe, hfr⟩ | ⟨y, t, L', z, hy, hz, hfr, hla⟩
    · have e : sr_rch N (C, fr, la, re) (nI x) = (upd C (x + 2) (-1), nI x, nI x, re + 1) := by
        unfold sr_rch
        rw [if_neg hx0]
        dsimp only
        rw [erd, if_pos hC0, if_pos hfr, ewr]
      rw [e]
      refine ⟨(sr_lo.put ho (-1)).hc hc, hL', hnd', fun p y hp => ?_, ?_, Or.inr ⟨x, [], [], x, by rw [hLe]; rfl, by rw [hLe], rfl, rfl⟩, hre', hLR', hcnt'⟩
      · subst hLe
        show upd C (x + 2) (-1) (p + 2) = 0 ↔ _
        by_cases hpx : p = x
        · subst hpx
          rw [pk_us]
          simp [sr_m10]
        · rw [pk_un (by omega)]
          rw [hmk p y hp]
          simp [hpx]
      · subst hLe
        exact pk_us
    · have hfr0 : fr ≠ 0 := by
        rw [hfr]
        obtain ⟨o', ho'⟩ := hL y (by rw [hy]; exact List.mem_cons_self)
        have := sr_ob_bd _ _ _ _ ho'
        have := sr_sz3 o'
        exact sr_ne0 (by omega) (by omega)
      have hzL : z ∈ L := by rw [hz]; simp
      obtain ⟨oz, hoz⟩ := hL z hzL
      have hbz := sr_ob_bd _ _ _ _ hoz
      have hz3 := sr_sz3 oz
      have hzx : z ≠ x := fun h => hm (h ▸ hzL)
      have e : sr_rch N (C, fr, la, re) (nI x) = (upd (upd C (x + 2) (-1)) (z + 2) (nI x), fr, nI x, re + 1) := by
        unfold sr_rch
        rw [if_neg hx0]
        dsimp only
        rw [erd, if_pos hC0, if_neg hfr0, ewr, hla, show nI z + 2 = nI (z + 2) from nI_add z 2, sr_wr_in (by omega) (by omega) hN]
      rw [e]
      have hzL' : z ∉ L' := by
        rw [hz, List.nodup_append] at hnd
        exact fun h => hnd.2.2 z h z (by simp) rfl
      refine ⟨(sr_lo.put hoz (nI x)).hc ((sr_lo.put ho (-1)).hc hc), hL', hnd', fun p w hp => ?_, ?_, Or.inr ⟨y, t ++ [x], L, x, by rw [hy]; rfl, rfl, hfr, rfl⟩, hre', hLR', hcnt'⟩
      · show upd (upd C (x + 2) (-1)) (z + 2) (nI x) (p + 2) = 0 ↔ _
        by_cases hpz : p = z
        · subst hpz
          rw [pk_us]
          simp [hx0, hzL]
        · rw [pk_un (by omega)]
          by_cases hpx : p = x
          · subst hpx
            rw [pk_us]
            simp [sr_m10]
          · rw [pk_un (by omega), hmk p w hp]
            simp [hpx]
      · show sr_lk (upd (upd C (x + 2) (-1)) (z + 2) (nI x)) (L ++ [x])
        rw [hz]
        refine sr_lk_snoc (C := C) pk_us ?_ L' (hz ▸ hlk) (fun v hv => ?_)
        · rw [pk_un (by omega)]; exact pk_us
        · have hvL : v ∈ L := by rw [hz]; exact List.mem_append_left _ hv
          have h1 : v ≠ z := fun h => hzL' (h ▸ hv)
          have h2 : v ≠ x := fun h => hm (h ▸ hvL)
          rw [pk_un (by omega), pk_un (by omega)]
theorem sr_J_rch0 {q : sr_Q} : sr_rch N q 0 = q := by
  unfold sr_rch
  rw [if_pos rfl]
/-- one object's fields -/
theorem sr_J_rcf (hN : N < 2 ^ 31) (hb : 1 + sr_tot os ≤ N) (hva : sr_va os rt) {a : Nat} {o : sr_O} (ho : sr_ob 1 os a o) (hR : sr_R os rt a) :
    ∀ (n i : Nat) (q : sr_Q) (L : List Nat), i + n = o.1 → sr_J os rt q L → ∃ E, sr_J os rt (sr_rcf N (nI a) n i q) (L ++ E) ∧ ∀ j, i ≤ j → j < o.1 → ∀ p x, sr_ob 1 os p x → o.2.2.2 j = nI p → p ∈ L ++ E
  | 0, i, q, L, hi, J => ⟨[], by rw [List.append_nil]; exact J, fun j h1 h2 => by omega⟩
  | n + 1, i, q, L, hi, J => by
    have hbd := sr_ob_bd _ _ _ _ ho
    have hs : sr_sz o = 3 + o.1 + o.2.1 := rfl
    have erd : sr_rd N q.1 (nI a + 3 + nI i) = o.2.2.2 i := by
      rw [show nI a + 3 = nI (a + 3) from nI_add a 3, nI_add, sr_rd_in (by omega) (by omega) hN]
      exact (J.1 a o ho).2.2 i (by omega)
    have step : ∃ E, sr_J os rt (sr_rch N q (o.2.2.2 i)) (L ++ E) ∧ ∀ p x, sr_ob 1 os p x → o.2.2.2 i = nI p → p ∈ L ++ E := by
      rcases hva.2 a o ho i (by omega) with h0 | ⟨p, x, hp, hv⟩
      · refine ⟨[], by rw [h0, sr_J_rch0, List.append_nil]; exact J, fun p x hp he => ?_⟩
        have hb2 := sr_ob_bd _ _ _ _ hp
        have h3 := sr_sz3 x
        exact absurd (he.symm.trans h0) (sr_ne0 (by omega) (by omega))
      · rw [hv]
        obtain ⟨E, h1, h2⟩ := sr_J_rch hN hb J hp ((sr_R_cl os rt).2 a o ho hR i (by omega) p x hp hv)
        refine ⟨E, h1, fun p' x' hp' he => ?_⟩
        have hb1 := sr_ob_bd _ _ _ _ hp
        have hb2 := sr_ob_bd _ _ _ _ hp'
        have h3 := sr_sz3 x
        have h4 := sr_sz3 x'
        have : p = p' := (nI_eq (by omega) (by omega)).mp he
        exact this ▸ h2
    obtain ⟨E, J1, hE⟩ := step
    obtain ⟨E', J2, hE'⟩ := sr_J_rcf hN hb hva ho hR n (i + 1) (sr_rch N q (o.2.2.2 i)) (L ++ E) (by omega) J1
    refine ⟨E ++ E', ?_, fun j h1 h2 p x hp he => ?_⟩
    · show sr_J os rt (sr_rcf N (nI a) n (i + 1) (sr_rch N q (sr_rd N q.1 (nI a + 3 + nI i)))) (L ++ (E ++ E'))
      rw [erd, ← List.append_assoc]
      exact J2
    · rw [← List.append_assoc]
      by_cases hj : j = i
      · subst hj
        exact List.mem_append_left _ (hE p x hp he)
      · exact hE' j (by omega) h2 p x hp he
/-- the roots -/
theorem sr_J_rcr (hN : N < 2 ^ 31) (hb : 1 + sr_tot os ≤ N) (hva : sr_va os rt) :
    ∀ (n i : Nat) (q : sr_Q) (L : List Nat), i + n = 16 → sr_J os rt q L → ∃ E, sr_J os rt (sr_rcr N rt n i q) (L ++ E) ∧ ∀ j, i ≤ j → j < 16 → ∀ p x, sr_ob 1 os p x → rt j = nI p → p ∈ L ++ E
  | 0, i, q, L, hi, J => ⟨[], by rw [List.append_nil]; exact J, fun j h1 h2 => by omega⟩
  | n + 1, i, q, L, hi, J => by
    have step : ∃ E, sr_J os rt (sr_rch N q (rt i)) (L ++ E) ∧ ∀ p x, sr_ob 1 os p x → rt i = nI p → p ∈ L ++ E := by
      rcases hva.1 i (by omega) with h0 | ⟨p, x, hp, hv⟩
      · refine ⟨[], by rw [h0, sr_J_rch0, List.append_nil]; exact J, fun p x hp he => ?_⟩
        have hb2 := sr_ob_bd _ _ _ _ hp
        have h3 := sr_sz3 x
        exact absurd (he.symm.trans h0) (sr_ne0 (by omega) (by omega))
      · rw [hv]
        obtain ⟨E, h1, h2⟩ := sr_J_rch hN hb J hp ((sr_R_cl os rt).1 i (by omega) p x hp hv)
        refine ⟨E, h1, fun p' x' hp' he => ?_⟩
        have hb1 := sr_ob_bd _ _ _ _ hp
        have hb2 := sr_ob_bd _ _ _ _ hp'
        have h3 := sr_sz3 x
        have h4 := sr_sz3 x'
        have : p = p' := (nI_eq (by omega) (by omega)).mp he
        exact this ▸ h2
    obtain ⟨E, J1, hE⟩ := step
    obtain ⟨E', J2, hE'⟩ := sr_J_rcr hN hb hva n (i + 1) (sr_rch N q (rt i)) (L ++ E) (by omega) J1
    refine ⟨E ++ E', ?_, fun j h1 h2 p x hp he => ?_⟩
    · show sr_J os rt (sr_rcr N rt n (i + 1) (sr_rch N q (rt i))) (L ++ (E ++ E'))
      rw [← List.append_assoc]
      exact J2
    · rw [← List.append_assoc]
      by_cases hj : j = i
      · subst hj
        exact List.mem_append_left _ (hE p x hp he)
      · exact hE' j (by omega) h2 p x hp he
/-- the chain: what stands ahead of a has been looked at -/
theorem sr_J_chn (hN : N < 2 ^ 31) (hb : 1 + sr_tot os ≤ N) (hok : sr_ok os) (hva : sr_va os rt) :
    ∀ (n : Nat) (a : Int32) (q : sr_Q) (P Q : List Nat), sr_J os rt q (P ++ Q) → os.length ≤ P.length + n → (Q = [] → a ≤ 0) → (∀ x t, Q = x :: t → a = nI x) →
      (∀ p o, sr_ob 1 os p o → p ∈ P → ∀ i, i < o.1 → ∀ p' x', sr_ob 1 os p' x' → o.2.2.2 i = nI p' → p' ∈ P ++ Q) →
      ∃ E, sr_J os rt (sr_chn N n a q) (P ++ Q ++ E) ∧ ∀ p o, sr_ob 1 os p o → p ∈ P ++ Q ++ E → ∀ i, i < o.1 → ∀ p' x', sr_ob 1 os p' x' → o.2.2.2 i = nI p' → p' ∈ P ++ Q ++ E
  | 0, a, q, P, Q, J, hlen, h0, h1, hcl => by
    have hl : (P ++ Q).length ≤ os.length := by rw [← J.2.2.2.2.2.2.2.2]; exact sr_kp_len os 1
    rw [List.length_append] at hl
    have hQ : Q = [] := List.eq_nil_of_length_eq_zero (by omega)
    subst hQ
    refine ⟨[], by show sr_J os rt q _; simpa using J, ?_⟩
    simpa using hcl
  | n + 1, a, q, P, [], J, hlen, h0, h1, hcl => by
    refine ⟨[], ?_, by simpa using hcl⟩
    show sr_J os rt (if a ≤ 0 then q else _) _
    rw [if_pos (h0 rfl)]
    simpa using J
  | n + 1, a, q, P, x :: t, J, hlen, h0, h1, hcl => by
    have ha := h1 x t rfl
    have hxL : x ∈ P ++ x :: t := by simp
    obtain ⟨o, ho⟩ := J.2.1 x hxL
    have hbd := sr_ob_bd _ _ _ _ ho
    have h3 := sr_sz3 o
    have hf : (sr_fi N q.1 (nI x)).toNatClampNeg = o.1 := by
      have hk := hok o (sr_ob_mem _ _ _ _ ho)
      rw [sr_fi_eq (J.1 x o ho) hk hbd.1 (by omega) hN, nI_clamp (by omega)]
    obtain ⟨E, J1, hE⟩ := sr_J_rcf hN hb hva ho (J.2.2.2.2.2.2.2.1 x hxL) o.1 0 q (P ++ x :: t) (by omega) J
    have hstep : sr_chn N (n + 1) a q = sr_chn N n (sr_rd N (sr_rcf N (nI x) o.1 0 q).1 (nI (x + 2))) (sr_rcf N (nI x) o.1 0 q) := by
      show (if a ≤ 0 then q else sr_chn N n (sr_rd N (sr_rcf N a (sr_fi N q.1 a).toNatClampNeg 0 q).1 (a + 2)) (sr_rcf N a (sr_fi N q.1 a).toNatClampNeg 0 q)) = _
      rw [ha, if_neg (nI_nle (by omega) (by omega)), hf, show nI x + 2 = nI (x + 2) from nI_add x 2]
    have eL : P ++ x :: t ++ E = (P ++ [x]) ++ (t ++ E) := by simp
    rw [eL] at J1
    have hnext := J1.2.2.2.2.1
    obtain ⟨E', J2, hE2⟩ := sr_J_chn hN hb hok hva n (sr_rd N (sr_rcf N (nI x) o.1 0 q).1 (nI (x + 2))) (sr_rcf N (nI x) o.1 0 q) (P ++ [x]) (t ++ E) J1 (by simp; omega)
      (fun hQ => by
        rw [sr_rd_in (by omega) (by omega) hN]
        rw [hQ, List.append_nil] at hnext
        rw [sr_lk_last P hnext]
        decide)
      (fun y u hQ => by
        rw [sr_rd_in (by omega) (by omega) hN]
        rw [hQ, List.append_assoc] at hnext
        exact sr_lk_next P hnext)
      (fun p o' hp hpm i hi p' x' hp' he => by
        rcases List.mem_append.mp hpm with h | h
        · have := hcl p o' hp h i hi p' x' hp' he
          rw [← eL]
          exact List.mem_append_left _ this
        · have hpx := List.mem_singleton.mp h
          subst hpx
          obtain rfl := sr_ob_eq ho hp
          rw [← eL]
          exact hE i (Nat.zero_le _) hi p' x' hp' he)
    refine ⟨E ++ E', ?_, ?_⟩
    · rw [hstep, ← List.append_assoc, eL]
      exact J2
    · rw [← List.append_assoc, eL]
      exact hE2
end Reach
end
section
/-! THE CLASS'S SLIDE, PURE -/
def sr_chR (N : Nat) (rt : Nat → Int32) (k : Nat) (C : Nat → Int32) : sr_Q :=
  sr_chn N k (sr_rcr N rt 16 0 (sr_clr N k C 1, 0, 0, 0)).2.1 (sr_rcr N rt 16 0 (sr_clr N k C 1, 0, 0, 0))
theorem sr_kp_none : ∀ (os : List sr_O) (a : Nat), sr_kp (fun p => decide (p ∈ ([] : List Nat))) a os = []
  | [], _ => rfl
  | o :: os, a => by
    simp only [sr_kp]
    rw [if_neg (by simp)]
    exact sr_kp_none os _
theorem sr_chR_spec {N : Nat} {os : List sr_O} {rt C : Nat → Int32} (hN : N < 2 ^ 31) (hb : 1 + sr_tot os ≤ N) (hok : sr_ok os) (hva : sr_va os rt) (hc : sr_hc C 1 os) :
    sr_hc (sr_chR N rt os.length C).1 1 os ∧ (∀ p o, sr_ob 1 os p o → ((sr_chR N rt os.length C).1 (p + 2) = 0 ↔ sr_m os rt p = false)) ∧ (sr_chR N rt os.length C).2.2.2 = nI (sr_kp (sr_m os rt) 1 os).length := by
  obtain ⟨c1, c2⟩ := sr_clr_eq hN os 1 C hc hok (Nat.le_refl _) hb
  rw [show nI 1 = (1 : Int32) from rfl] at c1 c2
  have J0 : sr_J os rt (sr_clr N os.length C 1, 0, 0, 0) [] :=
    ⟨c1.hc hc, fun x h => (List.not_mem_nil h).elim, List.nodup_nil, fun p o hp => ⟨fun _ => List.not_mem_nil, fun _ => c2 p o hp⟩, trivial, Or.inl ⟨rfl, rfl⟩, rfl, fun x h => (List.not_mem_nil h).elim, by rw [sr_kp_none]; rfl⟩
  obtain ⟨E, J1, hr⟩ := sr_J_rcr hN hb hva 16 0 _ [] rfl J0
  rw [List.nil_append] at J1 hr
  obtain ⟨E2, J2, hf⟩ := sr_J_chn hN hb hok hva os.length (sr_rcr N rt 16 0 (sr_clr N os.length C 1, 0, 0, 0)).2.1 _ [] E J1 (by simp)
    (fun hE => by
      rcases J1.2.2.2.2.2.1 with ⟨-, h⟩ | ⟨x, t, -, -, h, -⟩
      · rw [h]; decide
      · rw [hE] at h; cases h)
    (fun x t hE => by
      rcases J1.2.2.2.2.2.1 with ⟨h, -⟩ | ⟨x', t', -, -, h, -, h2, -⟩
      · rw [hE] at h; cases h
      · rw [hE] at h; cases h; exact h2)
    (fun p o _ h => (List.not_mem_nil h).elim)
  rw [List.nil_append] at J2 hf
  have hcl : sr_cl os rt (fun p => p ∈ E ++ E2) := ⟨fun r hr' p o hp he => List.mem_append_left _ (hr r (Nat.zero_le _) hr' p o hp he), fun p o hp hS i hi q x hq he => hf p o hp hS i hi q x hq he⟩
  have hiff : ∀ p, p ∈ E ++ E2 ↔ sr_R os rt p := fun p => ⟨J2.2.2.2.2.2.2.2.1 p, fun h => h _ hcl⟩
  refine ⟨J2.1, fun p o hp => ?_, ?_⟩
  · refine (J2.2.2.2.1 p o hp).trans ?_
    rw [hiff p]
    exact sr_b_not.symm
  · rw [show (sr_chR N rt os.length C).2.2.2 = nI (E ++ E2).length from J2.2.2.2.2.2.2.1, ← J2.2.2.2.2.2.2.2.2]
    rw [sr_kp_congr (m := fun p => decide (p ∈ E ++ E2)) (m' := sr_m os rt) os 1 (fun p o _ => ?_)]
    by_cases h : sr_R os rt p
    · rw [show sr_m os rt p = true from sr_b_iff.mpr h]
      exact decide_eq_true ((hiff p).mpr h)
    · rw [show sr_m os rt p = false from sr_b_not.mpr h]
      exact decide_eq_false (fun z => h ((hiff p).mp z))
/-- the new address of what stands at v, where the first stands at a and comes to b -/
def sr_pl (m : Nat → Bool) : Nat → Nat → List sr_O → Int32 → Int32
  | _, _, [], _ => 0
  | a, b, o :: os, v => if v = nI a then nI b else sr_pl m (a + sr_sz o) (if m a = true then b + sr_sz o else b) os v
theorem sr_pl_at {m : Nat → Bool} : ∀ (xs : List sr_O) (o : sr_O) (ys : List sr_O) (a b : Nat), a + sr_tot (xs ++ o :: ys) < 2 ^ 31 → sr_pl m a b (xs ++ o :: ys) (nI (a + sr_tot xs)) = nI (b + sr_tot (sr_kp m a xs))
  | [], o, ys, a, b, _ => by simp [sr_pl, sr_tot, sr_kp]
  | x :: xs, o, ys, a, b, h => by
    have h3 := sr_sz3 x
    have e : a + sr_tot (x :: xs) = a + sr_sz x + sr_tot xs := by simp only [sr_tot]; omega
    have h4 : a + sr_sz x + sr_tot (xs ++ o :: ys) < 2 ^ 31 := by
      have : sr_tot (x :: xs ++ o :: ys) = sr_sz x + sr_tot (xs ++ o :: ys) := rfl
      omega
    have h5 : sr_tot (xs ++ o :: ys) = sr_tot xs + sr_tot (o :: ys) := sr_tot_app _ _
    rw [e]
    show (if nI (a + sr_sz x + sr_tot xs) = nI a then nI b else sr_pl m (a + sr_sz x) (if m a = true then b + sr_sz x else b) (xs ++ o :: ys) (nI (a + sr_sz x + sr_tot xs))) = _
    rw [if_neg (fun z => by have := (nI_eq (by omega) (by omega)).mp z; omega), sr_pl_at xs o ys (a + sr_sz x) _ h4]
    congr 1
    simp only [sr_kp]
    split
    · simp only [sr_tot]; omega
    · rfl
theorem sr_pl_0 {m : Nat → Bool} : ∀ (os : List sr_O) (a b : Nat), 1 ≤ a → a + sr_tot os < 2 ^ 31 → sr_pl m a b os 0 = 0
  | [], _, _, _, _ => rfl
  | o :: os, a, b, h1, h => by
    have h3 := sr_sz3 o
    simp only [sr_tot] at h
    show (if (0 : Int32) = nI a then nI b else sr_pl m (a + sr_sz o) (if m a = true then b + sr_sz o else b) os 0) = 0
    rw [if_neg (fun z => sr_ne0 h1 (by omega) z.symm), sr_pl_0 os _ _ (by omega) (by omega)]
/-- an object whose fields tell the new addresses -/
def sr_ro (f : Int32 → Int32) (o : sr_O) : sr_O := (o.1, o.2.1, o.2.2.1, fun i => if i < o.1 then f (o.2.2.2 i) else o.2.2.2 i)
theorem sr_ro_sz (f : Int32 → Int32) (o : sr_O) : sr_sz (sr_ro f o) = sr_sz o := rfl
theorem sr_tot_map (f : Int32 → Int32) : ∀ (os : List sr_O), sr_tot (os.map (sr_ro f)) = sr_tot os
  | [] => rfl
  | o :: os => by
    show sr_sz o + sr_tot (os.map (sr_ro f)) = sr_sz o + sr_tot os
    rw [sr_tot_map f os]
theorem sr_ob_map (f : Int32 → Int32) : ∀ (os : List sr_O) (a p : Nat) (x : sr_O), sr_ob a (os.map (sr_ro f)) p x ↔ ∃ o, sr_ob a os p o ∧ x = sr_ro f o
  | [], _, _, _ => by simp [sr_ob]
  | o :: os, a, p, x => by
    show ((p = a ∧ x = sr_ro f o) ∨ sr_ob (a + sr_sz o) (os.map (sr_ro f)) p x) ↔ _
    rw [sr_ob_map f os]
    constructor
    · rintro (⟨h1, h2⟩ | ⟨y, h1, h2⟩)
      · exact ⟨o, Or.inl ⟨h1, rfl⟩, h2⟩
      · exact ⟨y, Or.inr h1, h2⟩
    · rintro ⟨y, ⟨h1, rfl⟩ | h1, h2⟩
      · exact Or.inl ⟨h1, h2⟩
      · exact Or.inr ⟨y, h1, h2⟩
/-- choosePlaces -/
def sr_chp (N : Nat) : Nat → (Nat → Int32) → Int32 → Int32 → (Nat → Int32) × Int32
  | 0, C, t, _ => (C, t)
  | n + 1, C, t, a => if sr_rd N C (a + 2) = 0 then sr_chp N n C t (a + sr_si N C a) else sr_chp N n (sr_wr N C (a + 2) (1 + t)) (t + sr_si N C a) (a + sr_si N C a)
theorem sr_chp_eq {N : Nat} {m : Nat → Bool} (hN : N < 2 ^ 31) : ∀ (os : List sr_O) (a t : Nat) (C : Nat → Int32), sr_hc C a os → sr_ok os → 1 ≤ a → a + sr_tot os ≤ N → t + 1 ≤ a → (∀ p o, sr_ob a os p o → (C (p + 2) = 0 ↔ m p = false)) →
    ∃ C', sr_chp N os.length C (nI t) (nI a) = (C', nI (t + sr_tot (sr_kp m a os))) ∧ sr_lo a os C C' ∧ ∀ p o, sr_ob a os p o → C' (p + 2) = if m p = true then sr_pl m a (1 + t) os (nI p) else 0
  | [], a, t, C, _, _, _, _, _, _ => ⟨C, by simp [sr_chp, sr_kp, sr_tot], sr_lo.rf, fun _ _ h => h.elim⟩
  | o :: os, a, t, C, hc, hk, h1, h2, ht, hm => by
    have h3 := sr_sz3 o
    simp only [sr_tot] at h2
    have h0 : sr_ob a (o :: os) a o := Or.inl ⟨rfl, rfl⟩
    have hce := sr_hc_cons.mp hc
    have hk' : sr_ok os := fun y hy => hk y (List.mem_cons_of_mem _ hy)
    have esi := sr_si_eq hce.1 (hk o List.mem_cons_self) h1 (by omega) hN
    have erd : sr_rd N C (nI a + 2) = C (a + 2) := by rw [show nI a + 2 = nI (a + 2) from nI_add a 2, sr_rd_in (by omega) (by omega) hN]
    have e : sr_chp N (o :: os).length C (nI t) (nI a) = if C (a + 2) = 0 then sr_chp N os.length C (nI t) (nI (a + sr_sz o)) else sr_chp N os.length (upd C (a + 2) (nI (1 + t))) (nI (t + sr_sz o)) (nI (a + sr_sz o)) := by
      show (if sr_rd N C (nI a + 2) = 0 then sr_chp N os.length C (nI t) (nI a + sr_si N C (nI a)) else sr_chp N os.length (sr_wr N C (nI a + 2) (1 + nI t)) (nI t + sr_si N C (nI a)) (nI a + sr_si N C (nI a))) = _
      rw [erd, esi, nI_add, nI_add, show nI a + 2 = nI (a + 2) from nI_add a 2, sr_wr_in (by omega) (by omega) hN, show 1 + nI t = nI (1 + t) from nI_add 1 t]
    have far : ∀ p y, sr_ob (a + sr_sz o) os p y → a + sr_sz o ≤ p ∧ p < 2 ^ 31 := fun p y hy => by
      have hb := sr_ob_bd _ _ _ _ hy
      have := sr_sz3 y
      omega
    have hpl : ∀ b p y, sr_ob (a + sr_sz o) os p y → sr_pl m a b (o :: os) (nI p) = sr_pl m (a + sr_sz o) (if m a = true then b + sr_sz o else b) os (nI p) := fun b p y hy => by
      have := far p y hy
      show (if nI p = nI a then nI b else _) = _
      rw [if_neg (fun z => by have := (nI_eq (by omega) (by omega)).mp z; omega)]
    rw [e]
    cases hma : m a with
    | false =>
      have hC0 := (hm a o h0).mpr hma
      obtain ⟨C', e1, e2, e3⟩ := sr_chp_eq (m := m) hN os (a + sr_sz o) t C hce.2 hk' (by omega) (by omega) (by omega) (fun p y hy => hm p y (Or.inr hy))
      refine ⟨C', ?_, e2.tail, ?_⟩
      · rw [if_pos hC0, e1]
        simp [sr_kp, hma]
      · rintro p y (⟨rfl, rfl⟩ | hy)
        · rw [hma, e2 (p + 2) (fun q z hz hq => by have := (far q z hz).1; omega), hC0]
          simp
        · rw [e3 p y hy, hpl _ p y hy, hma]
          simp
    | true =>
      have hC0 : ¬ C (a + 2) = 0 := fun z => by rw [(hm a o h0).mp z] at hma; cases hma
      have hc1 := (sr_lo.put (C := C) h0 (nI (1 + t))).hc hc
      obtain ⟨C', e1, e2, e3⟩ := sr_chp_eq (m := m) hN os (a + sr_sz o) (t + sr_sz o) (upd C (a + 2) (nI (1 + t))) (sr_hc_cons.mp hc1).2 hk' (by omega) (by omega) (by omega) (fun p y hy => by
        rw [pk_un (by have := (far p y hy).1; omega)]
        exact hm p y (Or.inr hy))
      refine ⟨C', ?_, (sr_lo.put h0 _).tr e2.tail, ?_⟩
      · rw [if_neg hC0, e1]
        simp only [sr_kp, hma, if_true, sr_tot]
        rw [Nat.add_assoc]
      · rintro p y (⟨rfl, rfl⟩ | hy)
        · rw [hma, e2 (p + 2) (fun q z hz hq => by have := (far q z hz).1; omega), pk_us]
          simp [sr_pl]
        · rw [e3 p y hy, hpl _ p y hy, hma]
          simp only [if_true]
          rw [show 1 + (t + sr_sz o) = 1 + t + sr_sz o from by omega]
/-- placeOf -/
def sr_po (N : Nat) (C : Nat → Int32) (v : Int32) : Int32 := if v = 0 then 0 else sr_rd N C (v + 2)
/-- redirectFieldsOf -/
def sr_rdf (N : Nat) (a : Int32) : Nat → Nat → (Nat → Int32) → Nat → Int32
  | 0, _, C => C
  | n + 1, i, C => sr_rdf N a n (i + 1) (sr_wr N C (a + 3 + nI i) (sr_po N C (sr_rd N C (a + 3 + nI i))))
/-- redirectFields -/
def sr_rfs (N : Nat) : Nat → (Nat → Int32) → Int32 → Nat → Int32
  | 0, C, _ => C
  | n + 1, C, a => sr_rfs N n (if sr_rd N C (a + 2) = 0 then C else sr_rdf N a (sr_fi N C a).toNatClampNeg 0 C) (a + sr_si N (if sr_rd N C (a + 2) = 0 then C else sr_rdf N a (sr_fi N C a).toNatClampNeg 0 C) a)
/-- the objects, the fields of the reached ones redirected, each where it stood -/
def sr_rl (m : Nat → Bool) (f : Int32 → Int32) : Nat → List sr_O → List sr_O
  | _, [] => []
  | a, o :: os => (if m a = true then sr_ro f o else o) :: sr_rl m f (a + sr_sz o) os
theorem sr_rl_sz (m : Nat → Bool) (f : Int32 → Int32) (a : Nat) (o : sr_O) : sr_sz (if m a = true then sr_ro f o else o) = sr_sz o := by split <;> rfl
theorem sr_rl_tot (m : Nat → Bool) (f : Int32 → Int32) : ∀ (os : List sr_O) (a : Nat), sr_tot (sr_rl m f a os) = sr_tot os
  | [], _ => rfl
  | o :: os, a => by simp only [sr_rl, sr_tot, sr_rl_sz, sr_rl_tot m f os]
theorem sr_rl_len (m : Nat → Bool) (f : Int32 → Int32) : ∀ (os : List sr_O) (a : Nat), (sr_rl m f a os).length = os.length
  | [], _ => rfl
  | o :: os, a => by simp only [sr_rl, List.length_cons, sr_rl_len m f os]
theorem sr_rl_ok (m : Nat → Bool) (f : Int32 → Int32) : ∀ (os : List sr_O) (a : Nat), sr_ok os → sr_ok (sr_rl m f a os)
  | [], _, h => h
  | o :: os, a, h => by
    intro x hx
    rcases List.mem_cons.mp hx with rfl | hx
    · have := h o List.mem_cons_self
      split
      · exact this
      · exact this
    · exact sr_rl_ok m f os _ (fun y hy => h y (List.mem_cons_of_mem _ hy)) x hx
theorem sr_rl_kp (m : Nat → Bool) (f : Int32 → Int32) : ∀ (os : List sr_O) (a : Nat), sr_kp m a (sr_rl m f a os) = (sr_kp m a os).map (sr_ro f)
  | [], _ => rfl
  | o :: os, a => by
    simp only [sr_rl, sr_kp, sr_rl_sz, sr_rl_kp m f os]
    split <;> simp
theorem sr_rl_ob (m : Nat → Bool) (f : Int32 → Int32) : ∀ (os : List sr_O) (a p : Nat) (x : sr_O), sr_ob a (sr_rl m f a os) p x → ∃ o, sr_ob a os p o ∧ x = if m p = true then sr_ro f o else o
  | [], _, _, _, h => h.elim
  | o :: os, a, p, x, h => by
    rcases h with ⟨rfl, rfl⟩ | h
    · exact ⟨o, Or.inl ⟨rfl, rfl⟩, rfl⟩
    · rw [sr_rl_sz] at h
      obtain ⟨y, h1, h2⟩ := sr_rl_ob m f os _ _ _ h
      exact ⟨y, Or.inr h1, h2⟩
theorem sr_rdf_eq {N : Nat} (hN : N < 2 ^ 31) {a k : Nat} (h1 : 1 ≤ a) (h2 : a + 3 + k ≤ N) {f : Int32 → Int32} {C0 : Nat → Int32}
    (hpo : ∀ C' : Nat → Int32, (∀ q, ¬ (a + 3 ≤ q ∧ q < a + 3 + k) → C' q = C0 q) → ∀ j, j < k → sr_po N C' (C0 (a + 3 + j)) = f (C0 (a + 3 + j))) :
    ∀ (n i : Nat) (C : Nat → Int32), i + n = k → (∀ q, ¬ (a + 3 ≤ q ∧ q < a + 3 + k) → C q = C0 q) → (∀ j, i ≤ j → j < k → C (a + 3 + j) = C0 (a + 3 + j)) →
      ∀ q, sr_rdf N (nI a) n i C q = if a + 3 + i ≤ q ∧ q < a + 3 + k then f (C0 q) else C q
  | 0, i, C, hi, _, _, q => by
    rw [if_neg (by omega)]; rfl
  | n + 1, i, C, hi, hq, hj, q => by
    have erd : sr_rd N C (nI a + 3 + nI i) = C0 (a + 3 + i) := by
      rw [show nI a + 3 = nI (a + 3) from nI_add a 3, nI_add, sr_rd_in (by omega) (by omega) hN]
      exact hj i (Nat.le_refl _) (by omega)
    have ewr : ∀ v, sr_wr N C (nI a + 3 + nI i) v = upd C (a + 3 + i) v := fun v => by
      rw [show nI a + 3 = nI (a + 3) from nI_add a 3, nI_add, sr_wr_in (by omega) (by omega) hN]
    show sr_rdf N (nI a) n (i + 1) (sr_wr N C (nI a + 3 + nI i) (sr_po N C (sr_rd N C (nI a + 3 + nI i)))) q = _
    rw [erd, ewr, hpo C hq i (by omega)]
    rw [sr_rdf_eq hN h1 h2 hpo n (i + 1) (upd C (a + 3 + i) (f (C0 (a + 3 + i)))) (by omega) (fun q hq' => by rw [pk_un (by omega)]; exact hq q hq') (fun j h3 h4 => by rw [pk_un (by omega)]; exact hj j (by omega) h4) q]
    by_cases h : a + 3 + (i + 1) ≤ q ∧ q < a + 3 + k
    · rw [if_pos h, if_pos (by omega)]
    · rw [if_neg h]
      by_cases h' : q = a + 3 + i
      · rw [if_pos (by omega), h']; exact pk_us
      · rw [if_neg (by omega)]; exact pk_un h'
theorem sr_rfs_eq {N : Nat} {m : Nat → Bool} {f : Int32 → Int32} {full : List sr_O} (hN : N < 2 ^ 31) : ∀ (os : List sr_O) (a : Nat) (C : Nat → Int32), sr_hc C a os → sr_ok os → 1 ≤ a → a + sr_tot os ≤ N →
    (∀ p o, sr_ob a os p o → (C (p + 2) = 0 ↔ m p = false)) → (∀ p o, sr_ob a os p o → sr_ob 1 full p o) →
    (∀ C' : Nat → Int32, (∀ p o, sr_ob 1 full p o → C' (p + 2) = C (p + 2)) → ∀ p o, sr_ob a os p o → m p = true → ∀ i, i < o.1 → sr_po N C' (o.2.2.2 i) = f (o.2.2.2 i)) →
    sr_hc (sr_rfs N os.length C (nI a)) a (sr_rl m f a os) ∧ ∀ q, (∀ p o, sr_ob a os p o → ¬ (p + 3 ≤ q ∧ q < p + 3 + o.1)) → sr_rfs N os.length C (nI a) q = C q
  | [], a, C, _, _, _, _, _, _, _ => ⟨fun _ _ h => h.elim, fun _ _ => rfl⟩
  | o :: os, a, C, hc, hk, h1, h2, hm, hfu, hpo => by
    have hs : sr_sz o = 3 + o.1 + o.2.1 := rfl
    simp only [sr_tot] at h2
    have h0 : sr_ob a (o :: os) a o := Or.inl ⟨rfl, rfl⟩
    have hce := sr_hc_cons.mp hc
    have hk' : sr_ok os := fun y hy => hk y (List.mem_cons_of_mem _ hy)
    have hko := hk o List.mem_cons_self
    have erd : sr_rd N C (nI a + 2) = C (a + 2) := by rw [show nI a + 2 = nI (a + 2) from nI_add a 2, sr_rd_in (by omega) (by omega) hN]
    have efi : (sr_fi N C (nI a)).toNatClampNeg = o.1 := by rw [sr_fi_eq hce.1 hko h1 (by omega) hN, nI_clamp (by omega)]
    have apart : ∀ p y, sr_ob 1 full p y → ¬ (a + 3 ≤ p + 2 ∧ p + 2 < a + 3 + o.1) := fun p y hy => by
      have h3 := sr_sz3 y
      rcases sr_ob_sep full 1 a p o y (hfu a o h0) hy with h | h | h
      · omega
      · omega
      · omega
    -- the cells behind this object's turn
    have key : ∃ C1 : Nat → Int32, (if sr_rd N C (nI a + 2) = 0 then C else sr_rdf N (nI a) (sr_fi N C (nI a)).toNatClampNeg 0 C) = C1 ∧ sr_ce C1 a (if m a = true then sr_ro f o else o) ∧ ∀ q, ¬ (a + 3 ≤ q ∧ q < a + 3 + o.1) → C1 q = C q := by
      rw [erd]
      cases hma : m a with
      | false =>
        rw [if_pos ((hm a o h0).mpr hma), if_neg (by decide)]
        exact ⟨C, rfl, hce.1, fun _ _ => rfl⟩
      | true =>
        rw [if_neg (fun z => by rw [(hm a o h0).mp z] at hma; cases hma), if_pos rfl, efi]
        have hr := sr_rdf_eq (N := N) hN (a := a) (k := o.1) h1 (by omega) (f := f) (C0 := C) (fun C' hC' j hj => by
          rw [hce.1.2.2 j (by omega)]
          exact hpo C' (fun p y hy => hC' _ (apart p y hy)) a o h0 hma j hj) o.1 0 C (by omega) (fun _ _ => rfl) (fun _ _ _ => rfl)
        refine ⟨_, rfl, ⟨?_, ?_, fun i hi => ?_⟩, fun q hq => ?_⟩
        · rw [hr, if_neg (by omega)]; exact hce.1.1
        · rw [hr, if_neg (by omega)]; exact hce.1.2.1
        · rw [hr]
          by_cases hi2 : i < o.1
          · rw [if_pos (by omega), hce.1.2.2 i hi]
            exact (if_pos hi2).symm
          · rw [if_neg (by omega), hce.1.2.2 i hi]
            exact (if_neg hi2).symm
        · rw [hr, if_neg (by omega)]
    obtain ⟨C1, e1, e2, e3⟩ := key
    have hhead : sr_ce C1 a o ∨ True := Or.inr trivial
    have esi : sr_si N C1 (nI a) = nI (sr_sz o) := by
      rw [sr_si_eq e2 (by split <;> exact hko) h1 (by omega) hN, sr_rl_sz]
    have e : sr_rfs N (o :: os).length C (nI a) = sr_rfs N os.length C1 (nI (a + sr_sz o)) := by
      show sr_rfs N os.length (if sr_rd N C (nI a + 2) = 0 then C else sr_rdf N (nI a) (sr_fi N C (nI a)).toNatClampNeg 0 C) (nI a + sr_si N (if sr_rd N C (nI a + 2) = 0 then C else sr_rdf N (nI a) (sr_fi N C (nI a)).toNatClampNeg 0 C) (nI a)) = _
      rw [e1, esi, nI_add]
    have far : ∀ p y, sr_ob (a + sr_sz o) os p y → a + sr_sz o ≤ p := fun p y hy => (sr_ob_bd _ _ _ _ hy).1
    have ih := sr_rfs_eq (m := m) (f := f) (full := full) hN os (a + sr_sz o) C1
      (fun p y hy => sr_ce_frame (hce.2 p y hy) fun q g1 g2 g3 => e3 q (by have := far p y hy; omega)) hk' (by omega) (by omega)
      (fun p y hy => by rw [e3 _ (by have := far p y hy; omega)]; exact hm p y (Or.inr hy)) (fun p y hy => hfu p y (Or.inr hy))
      (fun C' hC' p y hy => hpo C' (fun p' y' hy' => by rw [hC' p' y' hy', e3 _ (apart p' y' hy')]) p y (Or.inr hy))
    rw [e]
    constructor
    · show sr_hc _ a ((if m a = true then sr_ro f o else o) :: sr_rl m f (a + sr_sz o) os)
      rw [sr_hc_cons, sr_rl_sz]
      refine ⟨sr_ce_frame e2 fun q g1 g2 g3 => ih.2 q (fun p y hy => ?_), ih.1⟩
      rw [sr_rl_sz] at g2
      have := far p y hy
      omega
    · intro q hq
      rw [ih.2 q (fun p y hy => hq p y (Or.inr hy))]
      exact e3 q (hq a o h0)
/-- moveCells -/
def sr_mvc (N : Nat) (C : Nat → Int32) (a b k : Int32) : Nat → Int32 :=
  if b < 1 then C else if a ≤ b then C else if k ≤ 0 then C else if nI N - a < k then C else va_cpy C C a.toNatClampNeg b.toNatClampNeg k.toNatClampNeg
/-- moveReached -/
def sr_mv (N : Nat) : Nat → (Nat → Int32) → Int32 → Nat → Int32
  | 0, C, _ => C
  | n + 1, C, a => sr_mv N n (if sr_rd N C (a + 2) = 0 then C else sr_mvc N C a (sr_rd N C (a + 2)) (sr_si N C a)) (a + sr_si N C a)
theorem sr_mvc_eq {N : Nat} (hN : N < 2 ^ 31) {C : Nat → Int32} {a b k : Nat} (h1 : 1 ≤ b) (h2 : b ≤ a) (h3 : 1 ≤ k) (h4 : a + k ≤ N) (q : Nat) : sr_mvc N C (nI a) (nI b) (nI k) q = if b ≤ q ∧ q < b + k then C (a + (q - b)) else C q := by
  unfold sr_mvc
  rw [if_neg (sr_n1 h1 (by omega))]
  by_cases hab : a = b
  · subst hab
    rw [if_pos (nI_le (Nat.le_refl _) (by omega))]
    split
    · rename_i h
      rw [show a + (q - a) = q from by omega]
    · rfl
  · rw [if_neg (nI_ge (by omega) (by omega)), if_neg (nI_nle (by omega) (by omega)), pk_sub (by omega), if_neg (nI_nlt (by omega) (by omega)), nI_clamp (by omega), nI_clamp (by omega), nI_clamp (by omega)]
    rfl
theorem sr_mv_eq {N : Nat} {m : Nat → Bool} (hN : N < 2 ^ 31) : ∀ (os : List sr_O) (a b : Nat) (C : Nat → Int32), sr_hc C a os → sr_ok os → 1 ≤ b → b ≤ a → a + sr_tot os ≤ N →
    (∀ p o, sr_ob a os p o → C (p + 2) = if m p = true then sr_pl m a b os (nI p) else 0) →
    sr_hc (sr_mv N os.length C (nI a)) b (sr_kp m a os) ∧ ∀ q, q < b → sr_mv N os.length C (nI a) q = C q
  | [], a, b, C, _, _, _, _, _, _ => ⟨fun _ _ h => h.elim, fun _ _ => rfl⟩
  | o :: os, a, b, C, hc, hk, h1, hba, h2, hl => by
    have h3 := sr_sz3 o
    have hs : sr_sz o = 3 + o.1 + o.2.1 := rfl
    simp only [sr_tot] at h2
    have h0 : sr_ob a (o :: os) a o := Or.inl ⟨rfl, rfl⟩
    have hce := sr_hc_cons.mp hc
    have hk' : sr_ok os := fun y hy => hk y (List.mem_cons_of_mem _ hy)
    have esi := sr_si_eq hce.1 (hk o List.mem_cons_self) (show 1 ≤ a by omega) (show a < N by omega) hN
    have erd : sr_rd N C (nI a + 2) = C (a + 2) := by rw [show nI a + 2 = nI (a + 2) from nI_add a 2, sr_rd_in (by omega) (by omega) hN]
    have far : ∀ p y, sr_ob (a + sr_sz o) os p y → a + sr_sz o ≤ p ∧ p < 2 ^ 31 := fun p y hy => by
      have hb := sr_ob_bd _ _ _ _ hy
      have := sr_sz3 y
      omega
    have hpl : ∀ p y, sr_ob (a + sr_sz o) os p y → sr_pl m a b (o :: os) (nI p) = sr_pl m (a + sr_sz o) (if m a = true then b + sr_sz o else b) os (nI p) := fun p y hy => by
      have := far p y hy
      show (if nI p = nI a then nI b else _) = _
      rw [if_neg (fun z => by have := (nI_eq (by omega) (by omega)).mp z; omega)]
    have e : sr_mv N (o :: os).length C (nI a) = sr_mv N os.length (if C (a + 2) = 0 then C else sr_mvc N C (nI a) (C (a + 2)) (nI (sr_sz o))) (nI (a + sr_sz o)) := by
      show sr_mv N os.length (if sr_rd N C (nI a + 2) = 0 then C else sr_mvc N C (nI a) (sr_rd N C (nI a + 2)) (sr_si N C (nI a))) (nI a + sr_si N C (nI a)) = _
      rw [erd, esi, nI_add]
    have hla := hl a o h0
    rw [e]
    cases hma : m a with
    | false =>
      rw [hma] at hla
      rw [if_neg (by decide)] at hla
      rw [if_pos hla]
      have ih := sr_mv_eq (m := m) hN os (a + sr_sz o) b C hce.2 hk' h1 (by omega) (by omega) (fun p y hy => by rw [hl p y (Or.inr hy), hpl p y hy, hma]; simp)
      simp only [sr_kp, hma]
      exact ih
    | true =>
      rw [hma, if_pos rfl, show sr_pl m a b (o :: os) (nI a) = nI b from if_pos rfl] at hla
      rw [hla, if_neg (sr_ne0 h1 (by omega))]
      have hC1 := sr_mvc_eq hN (C := C) (a := a) (b := b) (k := sr_sz o) h1 hba (by omega) (by omega)
      generalize sr_mvc N C (nI a) (nI b) (nI (sr_sz o)) = C1 at hC1
      have ih := sr_mv_eq (m := m) hN os (a + sr_sz o) (b + sr_sz o) C1
        (fun p y hy => sr_ce_frame (hce.2 p y hy) fun q g1 g2 g3 => by rw [hC1, if_neg (by have := far p y hy; omega)]) hk' (by omega) (by omega) (by omega)
        (fun p y hy => by rw [hC1, if_neg (by have := far p y hy; omega), hl p y (Or.inr hy), hpl p y hy, hma]; simp)
      simp only [sr_kp, hma, if_true]
      constructor
      · rw [sr_hc_cons]
        refine ⟨⟨?_, ?_, fun i hi => ?_⟩, ih.1⟩
        · rw [ih.2 _ (by omega), hC1, if_pos (by omega), show a + (b - b) = a from by omega]; exact hce.1.1
        · rw [ih.2 _ (by omega), hC1, if_pos (by omega), show a + (b + 1 - b) = a + 1 from by omega]; exact hce.1.2.1
        · rw [ih.2 _ (by omega), hC1, if_pos (by omega), show a + (b + 3 + i - b) = a + 3 + i from by omega]; exact hce.1.2.2 i hi
      · intro q hq
        rw [ih.2 q (by omega), hC1, if_neg (by omega)]
end
section
/-! THE SLIDE ITSELF: what comes of the objects and the roots; the class's way to it -/
noncomputable def sr_f (os : List sr_O) (rt : Nat → Int32) : Int32 → Int32 := sr_pl (sr_m os rt) 1 1 os
noncomputable def sr_so (os : List sr_O) (rt : Nat → Int32) : List sr_O := (sr_kp (sr_m os rt) 1 os).map (sr_ro (sr_f os rt))
theorem sr_so_tot (os : List sr_O) (rt : Nat → Int32) : sr_tot (sr_so os rt) = sr_tot (sr_kp (sr_m os rt) 1 os) := sr_tot_map _ _
theorem sr_so_le (os : List sr_O) (rt : Nat → Int32) : sr_tot (sr_so os rt) ≤ sr_tot os := by rw [sr_so_tot]; exact sr_kp_tot os 1
theorem sr_so_len (os : List sr_O) (rt : Nat → Int32) : (sr_so os rt).length = (sr_kp (sr_m os rt) 1 os).length := List.length_map _
theorem sr_so_ok {os : List sr_O} {rt : Nat → Int32} (h : sr_ok os) : sr_ok (sr_so os rt) := by
  intro x hx
  obtain ⟨o, ho, rfl⟩ := List.mem_map.mp hx
  exact h o (sr_kp_mem os 1 o ho)
theorem sr_f_at {os : List sr_O} {rt : Nat → Int32} (hb : 1 + sr_tot os < 2 ^ 31) {p : Nat} {o : sr_O} (hp : sr_ob 1 os p o) (hm : sr_m os rt p = true) : ∃ p', sr_f os rt (nI p) = nI p' ∧ sr_ob 1 (sr_so os rt) p' (sr_ro (sr_f os rt) o) := by
  obtain ⟨xs, ys, h1, h2⟩ := sr_ob_split os 1 p o hp
  refine ⟨1 + sr_tot (sr_kp (sr_m os rt) 1 xs), ?_, ?_⟩
  · show sr_pl (sr_m os rt) 1 1 os (nI p) = _
    generalize sr_m os rt = m
    subst h1; subst h2
    exact sr_pl_at xs o ys 1 1 hb
  · refine (sr_ob_map _ _ _ _ _).mpr ⟨o, ?_, rfl⟩
    have e : sr_kp (sr_m os rt) 1 os = sr_kp (sr_m os rt) 1 xs ++ o :: sr_kp (sr_m os rt) (p + sr_sz o) ys := by
      generalize sr_m os rt = m at hm ⊢
      rw [h1, sr_kp_app, ← h2]
      show _ ++ (if m p = true then _ else _) = _
      rw [if_pos hm]
    rw [e]
    exact sr_ob_mid _ _ _ _
theorem sr_f_0 {os : List sr_O} {rt : Nat → Int32} (hb : 1 + sr_tot os < 2 ^ 31) : sr_f os rt 0 = 0 := sr_pl_0 os 1 1 (Nat.le_refl _) hb
theorem sr_so_va {os : List sr_O} {rt : Nat → Int32} (hb : 1 + sr_tot os < 2 ^ 31) (hva : sr_va os rt) : sr_va (sr_so os rt) (fun r => sr_f os rt (rt r)) := by
  have key : ∀ v, (v = 0 ∨ ∃ p o, sr_ob 1 os p o ∧ v = nI p ∧ sr_m os rt p = true) → sr_ad (sr_so os rt) (sr_f os rt v) := by
    rintro v (rfl | ⟨p, o, hp, rfl, hm⟩)
    · exact Or.inl (sr_f_0 hb)
    · obtain ⟨p', e, h⟩ := sr_f_at hb hp hm
      exact Or.inr ⟨p', _, h, e⟩
  refine ⟨fun r hr => key _ ?_, fun p x hx i hi => ?_⟩
  · rcases hva.1 r hr with h | ⟨p, o, hp, he⟩
    · exact Or.inl h
    · exact Or.inr ⟨p, o, hp, he, sr_b_iff.mpr ((sr_R_cl os rt).1 r hr p o hp he)⟩
  · obtain ⟨o, ho, rfl⟩ := (sr_ob_map _ _ _ _ _).mp hx
    obtain ⟨q, hq, hm⟩ : ∃ q, sr_ob 1 os q o ∧ sr_m os rt q = true := by
      have : ∀ (us : List sr_O) (a b p : Nat) (o : sr_O), sr_ob b (sr_kp (sr_m os rt) a us) p o → ∃ q, sr_ob a us q o ∧ sr_m os rt q = true := by
        intro us
        induction us with
        | nil => intro a b p o h; exact h.elim
        | cons u us ih =>
          intro a b p o h
          simp only [sr_kp] at h
          split at h
          · rename_i hma
            rcases h with ⟨-, rfl⟩ | h
            · exact ⟨a, Or.inl ⟨rfl, rfl⟩, hma⟩
            · obtain ⟨q, h1, h2⟩ := ih _ _ _ _ h
              exact ⟨q, Or.inr h1, h2⟩
          · obtain ⟨q, h1, h2⟩ := ih _ _ _ _ h
            exact ⟨q, Or.inr h1, h2⟩
      exact this os 1 1 p o ho
    have hi' : i < o.1 := hi
    show sr_ad _ (if i < o.1 then sr_f os rt (o.2.2.2 i) else o.2.2.2 i)
    rw [if_pos hi']
    refine key _ ?_
    rcases hva.2 q o hq i hi' with h | ⟨p', o', hp', he⟩
    · exact Or.inl h
    · exact Or.inr ⟨p', o', hp', he, sr_b_iff.mpr ((sr_R_cl os rt).2 q o hq (sr_b_iff.mp hm) i hi' p' o' hp' he)⟩
theorem sr_pl_rl (m : Nat → Bool) (f : Int32 → Int32) : ∀ (os : List sr_O) (a b : Nat) (v : Int32), sr_pl m a b (sr_rl m f a os) v = sr_pl m a b os v
  | [], _, _, _ => rfl
  | o :: os, a, b, v => by simp only [sr_rl, sr_pl, sr_rl_sz, sr_pl_rl m f os]
/-- the class's slide: places, fields, moves, over the chain's cells C -/
def sr_sC (N : Nat) (k : Nat) (C : Nat → Int32) : Nat → Int32 := sr_mv N k (sr_rfs N k (sr_chp N k C 0 1).1 1) 1
theorem sr_sC_spec {N : Nat} {os : List sr_O} {rt C : Nat → Int32} (hN : N < 2 ^ 31) (hb : 1 + sr_tot os ≤ N) (hok : sr_ok os) (hva : sr_va os rt) (hc : sr_hc C 1 os) (hmk : ∀ p o, sr_ob 1 os p o → (C (p + 2) = 0 ↔ sr_m os rt p = false)) :
    (sr_chp N os.length C 0 1).2 = nI (sr_tot (sr_so os rt)) ∧ (∀ r, r < 16 → sr_po N (sr_chp N os.length C 0 1).1 (rt r) = sr_f os rt (rt r)) ∧ sr_hc (sr_sC N os.length C) 1 (sr_so os rt) := by
  have hb' : 1 + sr_tot os < 2 ^ 31 := by omega
  obtain ⟨C2, e1, e2, e3⟩ := sr_chp_eq (m := sr_m os rt) hN os 1 0 C hc hok (Nat.le_refl _) hb (Nat.le_refl _) hmk
  have e1' : sr_chp N os.length C 0 1 = (C2, nI (sr_tot (sr_so os rt))) := by rw [sr_so_tot]; rw [Nat.zero_add] at e1; exact e1
  have hpo : ∀ C' : Nat → Int32, (∀ p o, sr_ob 1 os p o → C' (p + 2) = C2 (p + 2)) → ∀ v, (v = 0 ∨ ∃ p o, sr_ob 1 os p o ∧ v = nI p ∧ sr_m os rt p = true) → sr_po N C' v = sr_f os rt v := by
    rintro C' hC' v (rfl | ⟨p, o, hp, rfl, hm⟩)
    · rw [sr_f_0 hb']; exact if_pos rfl
    · have hbd := sr_ob_bd _ _ _ _ hp
      have h3 := sr_sz3 o
      unfold sr_po
      rw [if_neg (sr_ne0 (by omega) (by omega)), show nI p + 2 = nI (p + 2) from nI_add p 2, sr_rd_in (by omega) (by omega) hN, hC' p o hp, e3 p o hp, if_pos hm]
      rfl
  have hfld : ∀ p o, sr_ob 1 os p o → sr_m os rt p = true → ∀ i, i < o.1 → (o.2.2.2 i = 0 ∨ ∃ q x, sr_ob 1 os q x ∧ o.2.2.2 i = nI q ∧ sr_m os rt q = true) := fun p o hp hm i hi => by
    rcases hva.2 p o hp i hi with h | ⟨p', o', hp', he⟩
    · exact Or.inl h
    · exact Or.inr ⟨p', o', hp', he, sr_b_iff.mpr ((sr_R_cl os rt).2 p o hp (sr_b_iff.mp hm) i hi p' o' hp' he)⟩
  have hmk2 : ∀ p o, sr_ob 1 os p o → (C2 (p + 2) = 0 ↔ sr_m os rt p = false) := fun p o hp => by
    rw [e3 p o hp]
    cases hm : sr_m os rt p with
    | false => simp
    | true =>
      obtain ⟨p', h1, h2⟩ := sr_f_at hb' hp hm
      rw [if_pos rfl, show sr_pl (sr_m os rt) 1 (1 + 0) os (nI p) = sr_f os rt (nI p) from rfl, h1]
      have hbd := sr_ob_bd _ _ _ _ h2
      have h4 := sr_so_le os rt
      have h5 := sr_sz3 (sr_ro (sr_f os rt) o)
      simp [sr_ne0 (show 1 ≤ p' by omega) (show p' < 2 ^ 31 by omega)]
  have hrf := sr_rfs_eq (N := N) (m := sr_m os rt) (f := sr_f os rt) (full := os) hN os 1 C2 (e2.hc hc) hok (Nat.le_refl _) hb hmk2 (fun _ _ h => h) (fun C' hC' p o hp hm i hi => hpo C' hC' _ (hfld p o hp hm i hi))
  rw [show nI 1 = (1 : Int32) from rfl] at hrf
  have hmv := sr_mv_eq (N := N) (m := sr_m os rt) hN (sr_rl (sr_m os rt) (sr_f os rt) 1 os) 1 1 (sr_rfs N os.length C2 1) hrf.1 (sr_rl_ok _ _ os 1 hok) (Nat.le_refl _) (Nat.le_refl _) (by rw [sr_rl_tot]; exact hb)
    (fun p x hx => by
      obtain ⟨o, ho, -⟩ := sr_rl_ob _ _ os 1 p x hx
      rw [sr_pl_rl, hrf.2 (p + 2) (fun q y hy hq => ?_), e3 p o ho]
      have h3 := sr_sz3 o
      have hs : sr_sz y = 3 + y.1 + y.2.1 := rfl
      rcases sr_ob_sep os 1 p q o y ho hy with h | h | h
      · omega
      · omega
      · omega)
  rw [sr_rl_len, sr_rl_kp, show nI 1 = (1 : Int32) from rfl] at hmv
  rw [e1']
  refine ⟨rfl, fun r hr => hpo C2 (fun _ _ _ => rfl) _ ?_, ?_⟩
  · rcases hva.1 r hr with h | ⟨p, o, hp, he⟩
    · exact Or.inl h
    · exact Or.inr ⟨p, o, hp, he, sr_b_iff.mpr ((sr_R_cl os rt).1 r hr p o hp he)⟩
  · unfold sr_sC
    rw [e1']
    exact hmv.1
end
section
/-! THE MODEL'S ARRAYS, PURE -/
def sr_hd (F W : Nat → Int32) (a : Nat) (os : List sr_O) : Prop := ∀ p o, sr_ob a os p o → F p = nI (o.1 + 1) ∧ W p = nI o.2.1
def sr_hv (Nm D : Nat → Int32) (a : Nat) (os : List sr_O) : Prop := ∀ p o, sr_ob a os p o → Nm p = o.2.2.1 ∧ ∀ i, i < o.1 + o.2.1 → D (p + 3 + i) = o.2.2.2 i
def sr_hz (F : Nat → Int32) (os : List sr_O) : Prop := ∀ q, (∀ o, ¬ sr_ob 1 os q o) → q < 16386 → F q = 0
theorem sr_hd_cons {F W : Nat → Int32} {a : Nat} {o : sr_O} {os : List sr_O} (h : sr_hd F W a (o :: os)) : (F a = nI (o.1 + 1) ∧ W a = nI o.2.1) ∧ sr_hd F W (a + sr_sz o) os :=
  ⟨h a o (Or.inl ⟨rfl, rfl⟩), fun p x hx => h p x (Or.inr hx)⟩
/-- size, as the model counts it -/
theorem sr_ms {F W : Int32} {o : sr_O} (h1 : F = nI (o.1 + 1)) (h2 : W = nI o.2.1) : 3 + F - 1 + W = nI (sr_sz o) := by
  rw [h1, h2, show (3 : Int32) + nI (o.1 + 1) = nI (3 + o.1 + 1) from by rw [show (3 : Int32) = nI 3 from rfl, nI_add]; rfl, nI_pred, nI_add]
  rfl
theorem sr_mf1 {F : Int32} {o : sr_O} (h1 : F = nI (o.1 + 1)) : F - 1 = nI o.1 := by rw [h1, nI_pred]
/-! its marks -/
abbrev sr_P : Type := (Nat → Int32) × Int32
def sr_mk (s : sr_P) (b : Int32) : sr_P := if b ≤ 0 then s else if s.1 b.toNatClampNeg = 0 then (upd s.1 b.toNatClampNeg 1, 1) else s
def sr_mf (D : Nat → Int32) (a : Nat) : Nat → Nat → sr_P → sr_P
  | 0, _, s => s
  | n + 1, f, s => if s.1 a = 0 then s else sr_mf D a n (f + 1) (sr_mk s (D (a + 3 + f)))
def sr_mo (D : Nat → Int32) : Nat → List sr_O → sr_P → sr_P
  | _, [], s => s
  | a, o :: os, s => sr_mo D (a + sr_sz o) os (sr_mf D a o.1 0 s)
def sr_mp (D : Nat → Int32) (os : List sr_O) : Nat → sr_P → sr_P
  | 0, s => s
  | n + 1, s => if s.2 = 0 then s else sr_mp D os n (sr_mo D 1 os (s.1, 0))
def sr_mr (rt : Nat → Int32) : Nat → Nat → (Nat → Int32) → Nat → Int32
  | 0, _, rc => rc
  | n + 1, r, rc => sr_mr rt n (r + 1) (upd rc (rt r).toNatClampNeg 1)
/-- what the array marks -/
def sr_mm (rc : Nat → Int32) : Nat → Bool := fun p => decide (rc p ≠ 0)
theorem sr_mm_t {rc : Nat → Int32} {p : Nat} : sr_mm rc p = true ↔ rc p ≠ 0 := decide_eq_true_iff
theorem sr_kp_mono {m m' : Nat → Bool} : ∀ (os : List sr_O) (a : Nat), (∀ p o, sr_ob a os p o → m p = true → m' p = true) → (sr_kp m a os).length ≤ (sr_kp m' a os).length
  | [], _, _ => Nat.le_refl _
  | o :: os, a, h => by
    have ih := sr_kp_mono os (a + sr_sz o) (fun p x hx => h p x (Or.inr hx))
    simp only [sr_kp]
    by_cases hma : m a = true
    · rw [if_pos hma, if_pos (h a o (Or.inl ⟨rfl, rfl⟩) hma)]
      simp only [List.length_cons]; omega
    · rw [if_neg hma]
      split
      · simp only [List.length_cons]; omega
      · exact ih
theorem sr_kp_lt {m m' : Nat → Bool} {os : List sr_O} {x : Nat} {o : sr_O} (ho : sr_ob 1 os x o) (h1 : m x = false) (h2 : m' x = true) (h : ∀ p o, sr_ob 1 os p o → m p = true → m' p = true) : (sr_kp m 1 os).length + 1 ≤ (sr_kp m' 1 os).length := by
  rw [← sr_kp_add (m := m) (m' := fun p => if p = x then true else m p) h1 (by simp) (fun p hp => by simp [hp]) os 1 o ho]
  refine sr_kp_mono os 1 fun p y hy hp => ?_
  by_cases hpx : p = x
  · rw [hpx]; exact h2
  · simp only [hpx, if_false] at hp; exact h p y hy hp
section Marks
variable {os : List sr_O} {rt : Nat → Int32}
/-- only what is reached is marked -/
def sr_K (os : List sr_O) (rt rc : Nat → Int32) : Prop := ∀ p o, sr_ob 1 os p o → rc p ≠ 0 → sr_R os rt p
def sr_T (os : List sr_O) (rt : Nat → Int32) (s s' : sr_P) : Prop :=
  (∀ p, s.1 p ≠ 0 → s'.1 p ≠ 0) ∧ (s'.2 = 0 → s.2 = 0 ∧ s'.1 = s.1) ∧ (s.2 = 0 → s'.2 ≠ 0 → ∃ x o, sr_ob 1 os x o ∧ s.1 x = 0 ∧ s'.1 x ≠ 0) ∧ (sr_K os rt s.1 → sr_K os rt s'.1)
theorem sr_T.rf {s : sr_P} : sr_T os rt s s := ⟨fun _ h => h, fun h => ⟨h, rfl⟩, fun h h' => absurd h h', fun h => h⟩
theorem sr_T.tr {s s' s'' : sr_P} (h : sr_T os rt s s') (g : sr_T os rt s' s'') : sr_T os rt s s'' := by
  refine ⟨fun p hp => g.1 p (h.1 p hp), fun h0 => ?_, fun h0 h1 => ?_, fun hK => g.2.2.2 (h.2.2.2 hK)⟩
  · obtain ⟨a1, a2⟩ := g.2.1 h0
    obtain ⟨b1, b2⟩ := h.2.1 a1
    exact ⟨b1, a2.trans b2⟩
  · by_cases hs : s'.2 = 0
    · obtain ⟨x, o, h2, h3, h4⟩ := g.2.2.1 hs h1
      rw [(h.2.1 hs).2] at h3
      exact ⟨x, o, h2, h3, h4⟩
    · obtain ⟨x, o, h2, h3, h4⟩ := h.2.2.1 h0 hs
      exact ⟨x, o, h2, h3, g.1 x h4⟩
theorem sr_T_mk (hb : 1 + sr_tot os < 2 ^ 31) {s : sr_P} {b : Int32} (had : sr_ad os b) (hR : sr_K os rt s.1 → ∀ p o, sr_ob 1 os p o → b = nI p → sr_R os rt p) : sr_T os rt s (sr_mk s b) := by
  unfold sr_mk
  rcases had with rfl | ⟨p, o, hp, rfl⟩
  · rw [if_pos (by decide)]; exact sr_T.rf
  · have hbd := sr_ob_bd _ _ _ _ hp
    have h3 := sr_sz3 o
    rw [if_neg (nI_nle (by omega) (by omega)), nI_clamp (by omega)]
    by_cases h0 : s.1 p = 0
    · rw [if_pos h0]
      refine ⟨fun q hq => ?_, fun h => absurd (show (1 : Int32) = 0 from h) (by decide), fun _ _ => ⟨p, o, hp, h0, by show upd s.1 p 1 p ≠ 0; rw [pk_us]; decide⟩, fun hK q x hx hq => ?_⟩
      · by_cases hqp : q = p
        · show upd s.1 p 1 q ≠ 0
          rw [hqp, pk_us]; decide
        · show upd s.1 p 1 q ≠ 0
          rw [pk_un hqp]; exact hq
      · by_cases hqp : q = p
        · rw [hqp]; exact hR hK p o hp rfl
        · have hq' : upd s.1 p 1 q ≠ 0 := hq
          rw [pk_un hqp] at hq'
          exact hK q x hx hq'
    · rw [if_neg h0]; exact sr_T.rf
theorem sr_T_mf (hb : 1 + sr_tot os < 2 ^ 31) (hva : sr_va os rt) {D : Nat → Int32} {a : Nat} {o : sr_O} (ho : sr_ob 1 os a o) (hD : ∀ i, i < o.1 → D (a + 3 + i) = o.2.2.2 i) :
    ∀ (n f : Nat) (s : sr_P), f + n = o.1 → sr_T os rt s (sr_mf D a n f s)
  | 0, _, _, _ => sr_T.rf
  | n + 1, f, s, hf => by
    show sr_T os rt s (if s.1 a = 0 then s else _)
    by_cases h0 : s.1 a = 0
    · rw [if_pos h0]; exact sr_T.rf
    · rw [if_neg h0]
      refine (sr_T_mk hb (b := D (a + 3 + f)) ?_ ?_).tr (sr_T_mf hb hva ho hD n (f + 1) _ (by omega))
      · rw [hD f (by omega)]; exact hva.2 a o ho f (by omega)
      · intro hK p x hp he
        rw [hD f (by omega)] at he
        exact (sr_R_cl os rt).2 a o ho (hK a o ho h0) f (by omega) p x hp he
theorem sr_T_mo (hb : 1 + sr_tot os < 2 ^ 31) (hva : sr_va os rt) {D : Nat → Int32} (hD : ∀ p o, sr_ob 1 os p o → ∀ i, i < o.1 → D (p + 3 + i) = o.2.2.2 i) :
    ∀ (us : List sr_O) (a : Nat) (s : sr_P), (∀ p o, sr_ob a us p o → sr_ob 1 os p o) → sr_T os rt s (sr_mo D a us s)
  | [], _, _, _ => sr_T.rf
  | u :: us, a, s, hs => by
    have h0 := hs a u (Or.inl ⟨rfl, rfl⟩)
    exact (sr_T_mf hb hva h0 (hD a u h0) u.1 0 s (by omega)).tr (sr_T_mo hb hva hD us (a + sr_sz u) _ (fun p o h => hs p o (Or.inr h)))
/-- a pass that marks nothing more: what is marked is closed -/
theorem sr_mf_cl (hb : 1 + sr_tot os < 2 ^ 31) (hva : sr_va os rt) {D : Nat → Int32} {a : Nat} {o : sr_O} (ho : sr_ob 1 os a o) (hD : ∀ i, i < o.1 → D (a + 3 + i) = o.2.2.2 i) :
    ∀ (n f : Nat) (s : sr_P), f + n = o.1 → (sr_mf D a n f s).2 = 0 → s.1 a ≠ 0 → ∀ j, f ≤ j → j < o.1 → ∀ p x, sr_ob 1 os p x → o.2.2.2 j = nI p → s.1 p ≠ 0
  | 0, f, s, hf, _, _, j, h1, h2 => by omega
  | n + 1, f, s, hf, h0, ha, j, h1, h2 => by
    intro p x hp he
    have e : sr_mf D a (n + 1) f s = sr_mf D a n (f + 1) (sr_mk s (D (a + 3 + f))) := if_neg ha
    rw [e] at h0
    have hT2 := sr_T_mf (rt := rt) hb hva ho hD n (f + 1) (sr_mk s (D (a + 3 + f))) (by omega)
    have hm0 := (hT2.2.1 h0).1
    have hbd := sr_ob_bd _ _ _ _ hp
    have h3 := sr_sz3 x
    have hms : sr_mk s (D (a + 3 + f)) = s ∧ (j = f → s.1 p ≠ 0) := by
      rw [hD f (by omega)] at hm0 ⊢
      rcases hva.2 a o ho f (by omega) with hz | ⟨p', o', hp', he'⟩
      · refine ⟨by rw [hz]; exact if_pos (by decide), fun hj => ?_⟩
        subst hj
        exact absurd (he.symm.trans hz) (sr_ne0 (by omega) (by omega))
      · have hbd' := sr_ob_bd _ _ _ _ hp'
        have h3' := sr_sz3 o'
        rw [he'] at hm0 ⊢
        unfold sr_mk at hm0 ⊢
        rw [if_neg (nI_nle (by omega) (by omega)), nI_clamp (by omega)] at hm0 ⊢
        by_cases hz : s.1 p' = 0
        · rw [if_pos hz] at hm0
          exact absurd (show (1 : Int32) = 0 from hm0) (by decide)
        · rw [if_neg hz]
          refine ⟨rfl, fun hj => ?_⟩
          subst hj
          have : p = p' := (nI_eq (by omega) (by omega)).mp (he.symm.trans he')
          rw [this]; exact hz
    by_cases hj : j = f
    · exact hms.2 hj
    · rw [hms.1] at h0
      exact sr_mf_cl hb hva ho hD n (f + 1) s (by omega) h0 ha j (by omega) h2 p x hp he
theorem sr_mo_cl (hb : 1 + sr_tot os < 2 ^ 31) (hva : sr_va os rt) {D : Nat → Int32} (hD : ∀ p o, sr_ob 1 os p o → ∀ i, i < o.1 → D (p + 3 + i) = o.2.2.2 i) :
    ∀ (us : List sr_O) (a : Nat) (s : sr_P), (∀ p o, sr_ob a us p o → sr_ob 1 os p o) → (sr_mo D a us s).2 = 0 → ∀ p o, sr_ob a us p o → s.1 p ≠ 0 → ∀ i, i < o.1 → ∀ q x, sr_ob 1 os q x → o.2.2.2 i = nI q → s.1 q ≠ 0
  | [], _, _, _, _, p, o, h => h.elim
  | u :: us, a, s, hs, h0, p, o, hp => by
    have hu := hs a u (Or.inl ⟨rfl, rfl⟩)
    have h0' : (sr_mo D (a + sr_sz u) us (sr_mf D a u.1 0 s)).2 = 0 := h0
    have hT := sr_T_mo (rt := rt) hb hva hD us (a + sr_sz u) (sr_mf D a u.1 0 s) (fun p o h => hs p o (Or.inr h))
    have hm := (hT.2.1 h0').1
    have he := ((sr_T_mf (rt := rt) hb hva hu (hD a u hu) u.1 0 s (by omega)).2.1 hm).2
    intro h1 i hi q x hq hv
    rcases hp with ⟨rfl, rfl⟩ | hp
    · exact sr_mf_cl hb hva hu (hD p o hu) o.1 0 s (by omega) hm h1 i (Nat.zero_le _) hi q x hq hv
    · have := sr_mo_cl hb hva hD us (a + sr_sz u) (sr_mf D a u.1 0 s) (fun p o h => hs p o (Or.inr h)) h0' p o hp (by rw [he]; exact h1) i hi q x hq hv
      rw [he] at this
      exact this
theorem sr_mp_spec (hb : 1 + sr_tot os < 2 ^ 31) (hva : sr_va os rt) {D : Nat → Int32} (hD : ∀ p o, sr_ob 1 os p o → ∀ i, i < o.1 → D (p + 3 + i) = o.2.2.2 i) :
    ∀ (n : Nat) (s : sr_P), s.2 ≠ 0 → os.length < (sr_kp (sr_mm s.1) 1 os).length + n → sr_K os rt s.1 → (∀ r, r < 16 → ∀ p o, sr_ob 1 os p o → rt r = nI p → s.1 p ≠ 0) →
      ∀ p o, sr_ob 1 os p o → ((sr_mp D os n s).1 p ≠ 0 ↔ sr_R os rt p)
  | 0, s, _, hn, _, _ => by
    have := sr_kp_len (m := sr_mm s.1) os 1
    omega
  | n + 1, s, h0, hn, hK, hr => by
    have hT := sr_T_mo (rt := rt) hb hva hD os 1 (s.1, 0) (fun _ _ h => h)
    have e : sr_mp D os (n + 1) s = sr_mp D os n (sr_mo D 1 os (s.1, 0)) := if_neg h0
    rw [e]
    by_cases hz : (sr_mo D 1 os (s.1, 0)).2 = 0
    · have e2 : sr_mp D os n (sr_mo D 1 os (s.1, 0)) = sr_mo D 1 os (s.1, 0) := by
        cases n with
        | zero => rfl
        | succ n => exact if_pos hz
      rw [e2, (hT.2.1 hz).2]
      have hcl : sr_cl os rt (fun p => s.1 p ≠ 0) := ⟨hr, fun p o hp hS i hi q x hq he => sr_mo_cl hb hva hD os 1 (s.1, 0) (fun _ _ h => h) hz p o hp hS i hi q x hq he⟩
      exact fun p o hp => ⟨hK p o hp, fun h => h _ hcl⟩
    · obtain ⟨x, o, hx, h1, h2⟩ := hT.2.2.1 rfl hz
      have hlt := sr_kp_lt (m := sr_mm s.1) (m' := sr_mm (sr_mo D 1 os (s.1, 0)).1) hx (by simp only [sr_mm]; exact decide_eq_false (fun z => z h1)) (sr_mm_t.mpr h2) (fun p y _ hp => sr_mm_t.mpr (hT.1 p (sr_mm_t.mp hp)))
      exact sr_mp_spec hb hva hD n (sr_mo D 1 os (s.1, 0)) hz (by omega) (hT.2.2.2 hK) (fun r hr' p o hp he => hT.1 p (hr r hr' p o hp he))
/-- the roots' marks -/
theorem sr_mr_spec : ∀ (n r : Nat) (rc : Nat → Int32), r + n = 16 → ∀ p, (sr_mr rt n r rc p ≠ 0 ↔ rc p ≠ 0 ∨ ∃ j, r ≤ j ∧ j < 16 ∧ (rt j).toNatClampNeg = p)
  | 0, r, rc, h, p => by
    show rc p ≠ 0 ↔ _
    constructor
    · exact Or.inl
    · rintro (h1 | ⟨j, h1, h2, -⟩)
      · exact h1
      · omega
  | n + 1, r, rc, h, p => by
    show sr_mr rt n (r + 1) (upd rc (rt r).toNatClampNeg 1) p ≠ 0 ↔ _
    rw [sr_mr_spec n (r + 1) _ (by omega) p]
    by_cases hp : p = (rt r).toNatClampNeg
    · constructor
      · intro _; exact Or.inr ⟨r, Nat.le_refl _, by omega, hp.symm⟩
      · intro _; refine Or.inl ?_; rw [hp, pk_us]; decide
    · rw [pk_un hp]
      constructor
      · rintro (h1 | ⟨j, h1, h2, h3⟩)
        · exact Or.inl h1
        · exact Or.inr ⟨j, by omega, h2, h3⟩
      · rintro (h1 | ⟨j, h1, h2, h3⟩)
        · exact Or.inl h1
        · refine Or.inr ⟨j, ?_, h2, h3⟩
          have : j ≠ r := fun z => hp (by rw [← z]; exact h3.symm)
          omega
/-- reach, whole: from marks that are all off -/
theorem sr_reach_spec (hb : 1 + sr_tot os < 2 ^ 31) (hn : os.length < 6000) (hva : sr_va os rt) {D rc : Nat → Int32} (hD : ∀ p o, sr_ob 1 os p o → ∀ i, i < o.1 → D (p + 3 + i) = o.2.2.2 i) (h0 : ∀ p, p ≤ 1 + sr_tot os → rc p = 0) :
    ∀ p o, sr_ob 1 os p o → ((sr_mp D os 6000 (upd (sr_mr rt 16 0 rc) 0 0, 1)).1 p ≠ 0 ↔ sr_R os rt p) := by
  have hmr : ∀ p o, sr_ob 1 os p o → (upd (sr_mr rt 16 0 rc) 0 0 p ≠ 0 ↔ ∃ j, j < 16 ∧ rt j = nI p) := fun p o hp => by
    have hbd := sr_ob_bd _ _ _ _ hp
    have h3 := sr_sz3 o
    rw [pk_un (by omega), sr_mr_spec 16 0 rc rfl p]
    constructor
    · rintro (h | ⟨j, -, h1, h2⟩)
      · exact absurd (h0 p (by omega)) h
      · refine ⟨j, h1, ?_⟩
        rcases hva.1 j h1 with hz | ⟨q, x, hq, he⟩
        · rw [hz] at h2
          have : (0 : Int32).toNatClampNeg = 0 := by decide
          omega
        · have hbq := sr_ob_bd _ _ _ _ hq
          have h4 := sr_sz3 x
          rw [he, nI_clamp (by omega)] at h2
          rw [he, h2]
    · rintro ⟨j, h1, h2⟩
      exact Or.inr ⟨j, Nat.zero_le _, h1, by rw [h2, nI_clamp (by omega)]⟩
  refine sr_mp_spec hb hva hD 6000 _ (show (1 : Int32) ≠ 0 from by decide) (by omega) (fun p o hp hm => ?_) (fun r hr p o hp he => (hmr p o hp).mpr ⟨r, hr, he⟩)
  obtain ⟨j, h1, h2⟩ := (hmr p o hp).mp hm
  exact (sr_R_cl os rt).1 j h1 p o hp h2
end Marks
end
section
/-! THE MODEL'S SLIDE, PURE -/
def sr_tg (rc : Nat → Int32) : Nat → Nat → List sr_O → (Nat → Int32) → Nat → Int32
  | _, _, [], T => T
  | a, b, o :: os, T => sr_tg rc (a + sr_sz o) (if sr_mm rc a = true then b + sr_sz o else b) os (upd T a (nI b))
theorem sr_tg_eq {rc : Nat → Int32} : ∀ (os : List sr_O) (a b : Nat) (T : Nat → Int32), a + sr_tot os < 2 ^ 31 → (∀ p o, sr_ob a os p o → sr_tg rc a b os T p = sr_pl (sr_mm rc) a b os (nI p)) ∧ ∀ q, q < a → sr_tg rc a b os T q = T q
  | [], _, _, _, _ => ⟨fun _ _ h => h.elim, fun _ _ => rfl⟩
  | o :: os, a, b, T, h => by
    have h3 := sr_sz3 o
    simp only [sr_tot] at h
    have ih := sr_tg_eq (rc := rc) os (a + sr_sz o) (if sr_mm rc a = true then b + sr_sz o else b) (upd T a (nI b)) (by omega)
    constructor
    · rintro p x (⟨rfl, rfl⟩ | hp)
      · show sr_tg rc _ _ os _ p = _
        rw [ih.2 p (by omega), pk_us]
        exact (if_pos rfl).symm
      · have hbd := sr_ob_bd _ _ _ _ hp
        have h4 := sr_sz3 x
        show sr_tg rc _ _ os _ p = (if nI p = nI a then nI b else _)
        have hne : ¬ nI p = nI a := fun z => by have := (nI_eq (by omega) (by omega)).mp z; omega
        rw [ih.1 p x hp, if_neg hne]
    · intro q hq
      show sr_tg rc _ _ os _ q = _
      rw [ih.2 q (by omega), pk_un (by omega)]
theorem sr_pl_congr {m m' : Nat → Bool} : ∀ (os : List sr_O) (a b : Nat), (∀ p o, sr_ob a os p o → m p = m' p) → ∀ v, sr_pl m a b os v = sr_pl m' a b os v
  | [], _, _, _, _ => rfl
  | o :: os, a, b, h, v => by
    have e := h a o (Or.inl ⟨rfl, rfl⟩)
    simp only [sr_pl, e]
    rw [sr_pl_congr os _ _ (fun p x hx => h p x (Or.inr hx)) v]
def sr_df (T : Nat → Int32) (a : Nat) : Nat → Nat → (Nat → Int32) → Nat → Int32
  | 0, _, D => D
  | n + 1, f, D => sr_df T a n (f + 1) (upd D (a + 3 + f) (T (D (a + 3 + f)).toNatClampNeg))
theorem sr_df_eq {T : Nat → Int32} {a : Nat} : ∀ (n f : Nat) (D : Nat → Int32) (q : Nat), sr_df T a n f D q = if a + 3 + f ≤ q ∧ q < a + 3 + f + n then T (D q).toNatClampNeg else D q
  | 0, f, D, q => by rw [if_neg (by omega)]; rfl
  | n + 1, f, D, q => by
    show sr_df T a n (f + 1) _ q = _
    rw [sr_df_eq n (f + 1) _ q]
    by_cases h : q = a + 3 + f
    · rw [if_neg (by omega), if_pos (by omega), h, pk_us]
    · rw [pk_un h]
      by_cases h2 : a + 3 + (f + 1) ≤ q ∧ q < a + 3 + (f + 1) + n
      · rw [if_pos h2, if_pos (by omega)]
      · rw [if_neg h2, if_neg (by omega)]
def sr_do (rc T : Nat → Int32) : Nat → List sr_O → (Nat → Int32) → Nat → Int32
  | _, [], D => D
  | a, o :: os, D => sr_do rc T (a + sr_sz o) os (if sr_mm rc a = true then sr_df T a o.1 0 D else D)
theorem sr_do_eq {rc T Nm : Nat → Int32} {f : Int32 → Int32} : ∀ (os : List sr_O) (a : Nat) (D : Nat → Int32), sr_hv Nm D a os → (∀ p o, sr_ob a os p o → sr_mm rc p = true → ∀ i, i < o.1 → T (o.2.2.2 i).toNatClampNeg = f (o.2.2.2 i)) →
    sr_hv Nm (sr_do rc T a os D) a (sr_rl (sr_mm rc) f a os) ∧ ∀ q, q < a ∨ a + sr_tot os ≤ q → sr_do rc T a os D q = D q
  | [], _, _, _, _ => ⟨fun _ _ h => h.elim, fun _ _ => rfl⟩
  | o :: os, a, D, hv, hT => by
    have hs : sr_sz o = 3 + o.1 + o.2.1 := rfl
    have h0 : sr_ob a (o :: os) a o := Or.inl ⟨rfl, rfl⟩
    have hh := hv a o h0
    have key : ∃ D1 : Nat → Int32, (if sr_mm rc a = true then sr_df T a o.1 0 D else D) = D1 ∧ (∀ i, i < o.1 + o.2.1 → D1 (a + 3 + i) = (if sr_mm rc a = true then sr_ro f o else o).2.2.2 i) ∧ ∀ q, q < a + 3 ∨ a + sr_sz o ≤ q → D1 q = D q := by
      cases hma : sr_mm rc a with
      | false =>
        rw [if_neg (by decide), if_neg (by decide)]
        exact ⟨D, rfl, hh.2, fun _ _ => rfl⟩
      | true =>
        rw [if_pos rfl, if_pos rfl]
        refine ⟨_, rfl, fun i hi => ?_, fun q hq => ?_⟩
        · rw [sr_df_eq]
          show _ = if i < o.1 then f (o.2.2.2 i) else o.2.2.2 i
          by_cases hi2 : i < o.1
          · rw [if_pos (by omega), if_pos hi2, hh.2 i hi, hT a o h0 hma i hi2]
          · rw [if_neg (by omega), if_neg hi2, hh.2 i hi]
        · rw [sr_df_eq, if_neg (by omega)]
    obtain ⟨D1, e1, e2, e3⟩ := key
    have far : ∀ p y, sr_ob (a + sr_sz o) os p y → a + sr_sz o ≤ p := fun p y hy => (sr_ob_bd _ _ _ _ hy).1
    have ih := sr_do_eq (rc := rc) (T := T) (Nm := Nm) (f := f) os (a + sr_sz o) D1
      (fun p y hy => ⟨(hv p y (Or.inr hy)).1, fun i hi => by rw [e3 _ (by have := far p y hy; omega)]; exact (hv p y (Or.inr hy)).2 i hi⟩) (fun p y hy => hT p y (Or.inr hy))
    show sr_hv Nm (sr_do rc T (a + sr_sz o) os (if sr_mm rc a = true then sr_df T a o.1 0 D else D)) a (_ :: _) ∧ _
    rw [show sr_do rc T a (o :: os) D = sr_do rc T (a + sr_sz o) os (if sr_mm rc a = true then sr_df T a o.1 0 D else D) from rfl, e1]
    constructor
    · rintro p x (⟨rfl, rfl⟩ | hp)
      · have hnum : (if sr_mm rc p = true then sr_ro f o else o).2.2.1 = o.2.2.1 := by split <;> rfl
        have hn1 : (if sr_mm rc p = true then sr_ro f o else o).1 = o.1 := by split <;> rfl
        have hn2 : (if sr_mm rc p = true then sr_ro f o else o).2.1 = o.2.1 := by split <;> rfl
        refine ⟨by rw [hnum]; exact hh.1, fun i hi => ?_⟩
        rw [hn1, hn2] at hi
        rw [ih.2 _ (Or.inl (by omega))]
        exact e2 i hi
      · rw [sr_rl_sz] at hp
        exact ih.1 p x hp
    · intro q hq
      simp only [sr_tot] at hq
      rw [ih.2 q (by omega)]
      exact e3 q (by omega)
abbrev sr_B : Type := (Nat → Int32) × (Nat → Int32) × (Nat → Int32) × (Nat → Int32)
def sr_cp (a b : Nat) : Nat → Nat → (Nat → Int32) → Nat → Int32
  | 0, _, D => D
  | n + 1, k, D => sr_cp a b n (k + 1) (upd D (b + k) (D (a + k)))
theorem sr_cp_eq {a b : Nat} (hba : b ≤ a) : ∀ (n k : Nat) (D : Nat → Int32) (q : Nat), sr_cp a b n k D q = if b + k ≤ q ∧ q < b + k + n then D (a + (q - b)) else D q
  | 0, k, D, q => by rw [if_neg (by omega)]; rfl
  | n + 1, k, D, q => by
    show sr_cp a b n (k + 1) _ q = _
    rw [sr_cp_eq hba n (k + 1) _ q]
    by_cases h2 : b + (k + 1) ≤ q ∧ q < b + (k + 1) + n
    · rw [if_pos h2, if_pos (by omega), pk_un (by omega)]
    · rw [if_neg h2]
      by_cases h : q = b + k
      · rw [if_pos (by omega), h, pk_us]
        congr 1
        omega
      · rw [if_neg (by omega), pk_un h]
def sr_bg (b : Nat) (s : sr_B) (a k : Nat) : sr_B := (upd (upd s.1 a 0) b (s.1 a), upd (upd s.2.1 a 0) b (s.2.1 a), upd (upd s.2.2.1 a 0) b (s.2.2.1 a), sr_cp a b k 0 s.2.2.2)
def sr_bl (rc T : Nat → Int32) : Nat → List sr_O → sr_B → sr_B
  | _, [], s => s
  | a, o :: os, s => sr_bl rc T (a + sr_sz o) os (if sr_mm rc a = true then sr_bg (T a).toNatClampNeg s a (sr_sz o) else (upd s.1 a 0, upd s.2.1 a 0, upd s.2.2.1 a 0, s.2.2.2))
/-- one object's turn leaves the headers behind it as they were -/
theorem sr_bl_hd {rc : Nat → Int32} {F W : Nat → Int32} {a b : Nat} {o : sr_O} {os : List sr_O} (hba : b ≤ a) (h : sr_hd F W a (o :: os)) {F' W' : Nat → Int32}
    (hF : F' = upd (upd F a 0) b (F a) ∨ F' = upd F a 0) (hW : W' = upd (upd W a 0) b (W a) ∨ W' = upd W a 0) : sr_hd F' W' (a + sr_sz o) os := by
  intro p y hy
  have h3 := sr_sz3 o
  have hp := (sr_ob_bd _ _ _ _ hy).1
  have := h p y (Or.inr hy)
  constructor
  · rcases hF with rfl | rfl
    · rw [pk_un (by omega), pk_un (by omega)]; exact this.1
    · rw [pk_un (by omega)]; exact this.1
  · rcases hW with rfl | rfl
    · rw [pk_un (by omega), pk_un (by omega)]; exact this.2
    · rw [pk_un (by omega)]; exact this.2
theorem sr_upup {F : Nat → Int32} {a b q : Nat} {v : Int32} : upd (upd F a 0) b v q = if q = b then v else if q = a then 0 else F q := rfl
theorem sr_bl_eq {rc T : Nat → Int32} : ∀ (os : List sr_O) (a b : Nat) (s : sr_B), sr_hd s.1 s.2.1 a os → sr_hv s.2.2.1 s.2.2.2 a os → 1 ≤ b → b ≤ a → a + sr_tot os < 2 ^ 31 →
    (∀ p o, sr_ob a os p o → T p = sr_pl (sr_mm rc) a b os (nI p)) → (∀ q, b ≤ q → q < 16386 → (∀ o, ¬ sr_ob a os q o) → s.1 q = 0) →
    sr_hd (sr_bl rc T a os s).1 (sr_bl rc T a os s).2.1 b (sr_kp (sr_mm rc) a os) ∧ sr_hv (sr_bl rc T a os s).2.2.1 (sr_bl rc T a os s).2.2.2 b (sr_kp (sr_mm rc) a os) ∧
    (∀ q, b ≤ q → q < 16386 → (∀ o, ¬ sr_ob b (sr_kp (sr_mm rc) a os) q o) → (sr_bl rc T a os s).1 q = 0) ∧
    ∀ q, q < b → (sr_bl rc T a os s).1 q = s.1 q ∧ (sr_bl rc T a os s).2.1 q = s.2.1 q ∧ (sr_bl rc T a os s).2.2.1 q = s.2.2.1 q ∧ (sr_bl rc T a os s).2.2.2 q = s.2.2.2 q
  | [], a, b, s, _, _, _, _, _, _, hz => ⟨fun _ _ h => h.elim, fun _ _ h => h.elim, fun q h1 h2 _ => hz q h1 h2 (fun _ h => h), fun _ _ => ⟨rfl, rfl, rfl, rfl⟩⟩
  | o :: os, a, b, s, hd, hv, h1, hba, hN, hT, hz => by
    obtain ⟨F, W, Nm, D⟩ := s
    dsimp only at hd hv hz
    have h3 := sr_sz3 o
    have hs : sr_sz o = 3 + o.1 + o.2.1 := rfl
    simp only [sr_tot] at hN
    have h0 : sr_ob a (o :: os) a o := Or.inl ⟨rfl, rfl⟩
    have far : ∀ p y, sr_ob (a + sr_sz o) os p y → a + sr_sz o ≤ p ∧ p < 2 ^ 31 := fun p y hy => by
      have hb := sr_ob_bd _ _ _ _ hy
      have := sr_sz3 y
      omega
    have hpl : ∀ p y, sr_ob (a + sr_sz o) os p y → sr_pl (sr_mm rc) a b (o :: os) (nI p) = sr_pl (sr_mm rc) (a + sr_sz o) (if sr_mm rc a = true then b + sr_sz o else b) os (nI p) := fun p y hy => by
      have := far p y hy
      show (if nI p = nI a then nI b else _) = _
      rw [if_neg (fun z => by have := (nI_eq (by omega) (by omega)).mp z; omega)]
    have hTa : (T a).toNatClampNeg = b := by
      rw [hT a o h0, show sr_pl (sr_mm rc) a b (o :: os) (nI a) = nI b from if_pos rfl, nI_clamp (by omega)]
    have hha := hd a o h0
    have hva := hv a o h0
    rw [show sr_bl rc T a (o :: os) (F, W, Nm, D) = sr_bl rc T (a + sr_sz o) os (if sr_mm rc a = true then sr_bg (T a).toNatClampNeg (F, W, Nm, D) a (sr_sz o) else (upd F a 0, upd W a 0, upd Nm a 0, D)) from rfl, hTa]
    cases hma : sr_mm rc a with
    | false =>
      rw [if_neg (by decide)]
      simp only [sr_kp, hma]
      have ih := sr_bl_eq (rc := rc) (T := T) os (a + sr_sz o) b (upd F a 0, upd W a 0, upd Nm a 0, D)
        (fun p y hy => by have := far p y hy; dsimp only; rw [pk_un (by omega), pk_un (by omega)]; exact hd p y (Or.inr hy))
        (fun p y hy => by have := far p y hy; dsimp only; rw [pk_un (by omega)]; exact hv p y (Or.inr hy)) h1 (by omega) (by omega)
        (fun p y hy => by rw [hT p y (Or.inr hy), hpl p y hy, hma]; rfl)
        (fun q g1 g2 g3 => by
          dsimp only
          by_cases hqa : q = a
          · rw [hqa]; exact pk_us
          · rw [pk_un hqa]
            refine hz q g1 g2 fun y hy => ?_
            rcases hy with ⟨h, -⟩ | hy
            · exact hqa h
            · exact g3 y hy)
      refine ⟨ih.1, ih.2.1, ih.2.2.1, fun q hq => ?_⟩
      obtain ⟨i1, i2, i3, i4⟩ := ih.2.2.2 q hq
      rw [i1, i2, i3, i4]
      dsimp only
      rw [pk_un (by omega), pk_un (by omega), pk_un (by omega)]
      exact ⟨rfl, rfl, rfl, rfl⟩
    | true =>
      rw [if_pos rfl]
      simp only [sr_kp, hma, if_true]
      have ih := sr_bl_eq (rc := rc) (T := T) os (a + sr_sz o) (b + sr_sz o) (sr_bg b (F, W, Nm, D) a (sr_sz o))
        (fun p y hy => by
          have := far p y hy
          show upd (upd F a 0) b (F a) p = _ ∧ upd (upd W a 0) b (W a) p = _
          rw [pk_un (by omega), pk_un (by omega), pk_un (by omega), pk_un (by omega)]; exact hd p y (Or.inr hy))
        (fun p y hy => by
          have := far p y hy
          show upd (upd Nm a 0) b (Nm a) p = _ ∧ ∀ i, _ → sr_cp a b (sr_sz o) 0 D (p + 3 + i) = _
          rw [pk_un (by omega), pk_un (by omega)]
          refine ⟨(hv p y (Or.inr hy)).1, fun i hi => ?_⟩
          rw [sr_cp_eq hba, if_neg (by omega)]
          exact (hv p y (Or.inr hy)).2 i hi) (by omega) (by omega) (by omega)
        (fun p y hy => by rw [hT p y (Or.inr hy), hpl p y hy, hma]; rfl)
        (fun q g1 g2 g3 => by
          show upd (upd F a 0) b (F a) q = 0
          rw [pk_un (by omega)]
          by_cases hqa : q = a
          · rw [hqa]; exact pk_us
          · rw [pk_un hqa]
            refine hz q (by omega) g2 fun y hy => ?_
            rcases hy with ⟨h, -⟩ | hy
            · exact hqa h
            · exact g3 y hy)
      have hfr := ih.2.2.2
      have eF : ∀ q, q < b + sr_sz o → (sr_bl rc T (a + sr_sz o) os (sr_bg b (F, W, Nm, D) a (sr_sz o))).1 q = if q = b then F a else if q = a then 0 else F q := fun q hq => (hfr q hq).1
      have eW : ∀ q, q < b + sr_sz o → (sr_bl rc T (a + sr_sz o) os (sr_bg b (F, W, Nm, D) a (sr_sz o))).2.1 q = if q = b then W a else if q = a then 0 else W q := fun q hq => (hfr q hq).2.1
      have eN : ∀ q, q < b + sr_sz o → (sr_bl rc T (a + sr_sz o) os (sr_bg b (F, W, Nm, D) a (sr_sz o))).2.2.1 q = if q = b then Nm a else if q = a then 0 else Nm q := fun q hq => (hfr q hq).2.2.1
      have eD : ∀ q, q < b + sr_sz o → (sr_bl rc T (a + sr_sz o) os (sr_bg b (F, W, Nm, D) a (sr_sz o))).2.2.2 q = if b ≤ q then D (a + (q - b)) else D q := fun q hq => by
        rw [(hfr q hq).2.2.2]
        show sr_cp a b (sr_sz o) 0 D q = _
        rw [sr_cp_eq hba]
        by_cases hbq : b ≤ q
        · rw [if_pos (by omega), if_pos hbq]
        · rw [if_neg (by omega), if_neg hbq]
      refine ⟨?_, ?_, ?_, fun q hq => ?_⟩
      · rintro p y (⟨rfl, rfl⟩ | hy)
        · rw [eF p (by omega), eW p (by omega), if_pos rfl, if_pos rfl]; exact hha
        · exact ih.1 p y hy
      · rintro p y (⟨rfl, rfl⟩ | hy)
        · rw [eN p (by omega), if_pos rfl]
          refine ⟨hva.1, fun i hi => ?_⟩
          rw [eD _ (by omega), if_pos (by omega), show a + (p + 3 + i - p) = a + 3 + i from by omega]
          exact hva.2 i hi
        · exact ih.2.1 p y hy
      · intro q g1 g2 g3
        by_cases hqb : q < b + sr_sz o
        · have hqne : q ≠ b := fun h => g3 o (Or.inl ⟨h, rfl⟩)
          rw [eF q hqb, if_neg hqne]
          by_cases hqa : q = a
          · rw [if_pos hqa]
          · rw [if_neg hqa]
            refine hz q (by omega) g2 fun y hy => ?_
            rcases hy with ⟨h, -⟩ | hy
            · exact hqa h
            · have := far q y hy; omega
        · exact ih.2.2.1 q (by omega) g2 (fun y hy => g3 y (Or.inr hy))
      · rw [eF q (by omega), eW q (by omega), eN q (by omega), eD q (by omega), if_neg (by omega), if_neg (by omega), if_neg (by omega), if_neg (by omega), if_neg (by omega), if_neg (by omega), if_neg (by omega)]
        exact ⟨rfl, rfl, rfl, rfl⟩
/-- the model's slide, whole -/
theorem sr_sM_spec {os : List sr_O} {rt F W Nm D rc T0 : Nat → Int32} (hb : 1 + sr_tot os < 2 ^ 31) (hva : sr_va os rt) (hd : sr_hd F W 1 os) (hv : sr_hv Nm D 1 os) (hz : sr_hz F os)
    (hm : ∀ p o, sr_ob 1 os p o → (rc p ≠ 0 ↔ sr_R os rt p)) :
    (∀ r, r < 16 → upd (sr_tg rc 1 1 os T0) 0 0 (rt r).toNatClampNeg = sr_f os rt (rt r)) ∧
    sr_tot (sr_kp (sr_mm rc) 1 os) = sr_tot (sr_so os rt) ∧ (sr_kp (sr_mm rc) 1 os).length = (sr_so os rt).length ∧
    sr_hd (sr_bl rc (upd (sr_tg rc 1 1 os T0) 0 0) 1 os (F, W, Nm, sr_do rc (upd (sr_tg rc 1 1 os T0) 0 0) 1 os D)).1 (sr_bl rc (upd (sr_tg rc 1 1 os T0) 0 0) 1 os (F, W, Nm, sr_do rc (upd (sr_tg rc 1 1 os T0) 0 0) 1 os D)).2.1 1 (sr_so os rt) ∧
    sr_hv (sr_bl rc (upd (sr_tg rc 1 1 os T0) 0 0) 1 os (F, W, Nm, sr_do rc (upd (sr_tg rc 1 1 os T0) 0 0) 1 os D)).2.2.1 (sr_bl rc (upd (sr_tg rc 1 1 os T0) 0 0) 1 os (F, W, Nm, sr_do rc (upd (sr_tg rc 1 1 os T0) 0 0) 1 os D)).2.2.2 1 (sr_so os rt) ∧
    sr_hz (sr_bl rc (upd (sr_tg rc 1 1 os T0) 0 0) 1 os (F, W, Nm, sr_do rc (upd (sr_tg rc 1 1 os T0) 0 0) 1 os D)).1 (sr_so os rt) := by
  have hmm : ∀ p o, sr_ob 1 os p o → sr_mm rc p = sr_m os rt p := fun p o hp => by
    cases h : sr_m os rt p with
    | true => exact sr_mm_t.mpr ((hm p o hp).mpr (sr_b_iff.mp h))
    | false =>
      cases h2 : sr_mm rc p with
      | false => rfl
      | true => exact absurd ((hm p o hp).mp (sr_mm_t.mp h2)) (sr_b_not.mp h)
  have hkp : sr_kp (sr_mm rc) 1 os = sr_kp (sr_m os rt) 1 os := sr_kp_congr os 1 hmm
  have hplE : ∀ v, sr_pl (sr_mm rc) 1 1 os v = sr_f os rt v := sr_pl_congr os 1 1 hmm
  obtain ⟨t1, t2⟩ := sr_tg_eq (rc := rc) os 1 1 T0 hb
  have hTp : ∀ p o, sr_ob 1 os p o → upd (sr_tg rc 1 1 os T0) 0 0 p = sr_pl (sr_mm rc) 1 1 os (nI p) := fun p o hp => by
    have := (sr_ob_bd _ _ _ _ hp).1
    rw [pk_un (by omega)]
    exact t1 p o hp
  generalize hTe : upd (sr_tg rc 1 1 os T0) 0 0 = T at hTp
  have hT0 : T 0 = 0 := by rw [← hTe]; exact pk_us
  have hTv : ∀ v, sr_ad os v → T v.toNatClampNeg = sr_f os rt v := by
    rintro v (rfl | ⟨p, o, hp, rfl⟩)
    · rw [show (0 : Int32).toNatClampNeg = 0 from by decide, hT0, sr_f_0 hb]
    · have hbd := sr_ob_bd _ _ _ _ hp
      have h3 := sr_sz3 o
      rw [nI_clamp (by omega), hTp p o hp, hplE]
  obtain ⟨d1, d2⟩ := sr_do_eq (rc := rc) (T := T) (Nm := Nm) (f := sr_f os rt) os 1 D hv (fun p o hp _ i hi => hTv _ (hva.2 p o hp i hi))
  have hrl : ∀ p x, sr_ob 1 (sr_rl (sr_mm rc) (sr_f os rt) 1 os) p x → ∃ o, sr_ob 1 os p o ∧ x.1 = o.1 ∧ x.2.1 = o.2.1 := fun p x hx => by
    obtain ⟨o, ho, e⟩ := sr_rl_ob _ _ os 1 p x hx
    refine ⟨o, ho, ?_, ?_⟩
    · rw [e]; split <;> rfl
    · rw [e]; split <;> rfl
  have hrl2 : ∀ (us : List sr_O) (a p : Nat) (o : sr_O), sr_ob a us p o → ∃ x, sr_ob a (sr_rl (sr_mm rc) (sr_f os rt) a us) p x := by
    intro us
    induction us with
    | nil => intro a p o h; exact h.elim
    | cons u us ih =>
      intro a p o h
      rcases h with ⟨rfl, rfl⟩ | h
      · exact ⟨_, Or.inl ⟨rfl, rfl⟩⟩
      · obtain ⟨x, hx⟩ := ih _ _ _ h
        refine ⟨x, Or.inr ?_⟩
        rw [sr_rl_sz]
        exact hx
  have hbl := sr_bl_eq (rc := rc) (T := T) (sr_rl (sr_mm rc) (sr_f os rt) 1 os) 1 1 (F, W, Nm, sr_do rc T 1 os D)
    (fun p x hx => by
      obtain ⟨o, ho, e1, e2⟩ := hrl p x hx
      rw [e1, e2]
      exact hd p o ho) d1 (Nat.le_refl _) (Nat.le_refl _) (by rw [sr_rl_tot]; exact hb)
    (fun p x hx => by
      obtain ⟨o, ho, -⟩ := hrl p x hx
      rw [sr_pl_rl]
      exact hTp p o ho)
    (fun q h1 h2 h3 => hz q (fun o ho => by
      obtain ⟨x, hx⟩ := hrl2 os 1 q o ho
      exact h3 x hx) h2)
  have hble : ∀ (us : List sr_O) (a : Nat) (s : sr_B), sr_bl rc T a (sr_rl (sr_mm rc) (sr_f os rt) a us) s = sr_bl rc T a us s := by
    intro us
    induction us with
    | nil => intro a s; rfl
    | cons u us ih =>
      intro a s
      simp only [sr_rl, sr_bl, sr_rl_sz]
      exact ih _ _
  rw [hble, sr_rl_kp, show (sr_kp (sr_mm rc) 1 os).map (sr_ro (sr_f os rt)) = sr_so os rt from by rw [hkp]; rfl] at hbl
  refine ⟨fun r hr => hTv _ (hva.1 r hr), by rw [hkp, sr_so_tot], by rw [hkp, sr_so_len], hbl.1, hbl.2.1, ?_⟩
  intro q h1 h2
  by_cases hq : q = 0
  · subst hq
    rw [(hbl.2.2.2 0 (by omega)).1]
    exact hz 0 (fun o ho => by have := (sr_ob_bd _ _ _ _ ho).1; omega) (by omega)
  · exact hbl.2.2.1 q (by omega) h2 h1
end
section
/-! ONE OBJECT CHANGES; ONE COMES -/
def sr_up (g : sr_O → sr_O) : Nat → List sr_O → Nat → List sr_O
  | _, [], _ => []
  | a, o :: os, p => if p = a then g o :: os else o :: sr_up g (a + sr_sz o) os p
def sr_gs (i : Nat) (v : Int32) (o : sr_O) : sr_O := (o.1, o.2.1, o.2.2.1, upd o.2.2.2 i v)
def sr_gn (v : Int32) (o : sr_O) : sr_O := (o.1, o.2.1, v, o.2.2.2)
def sr_sh (g : sr_O → sr_O) : Prop := ∀ o, (g o).1 = o.1 ∧ (g o).2.1 = o.2.1
theorem sr_gs_sh (i : Nat) (v : Int32) : sr_sh (sr_gs i v) := fun _ => ⟨rfl, rfl⟩
theorem sr_gn_sh (v : Int32) : sr_sh (sr_gn v) := fun _ => ⟨rfl, rfl⟩
section Up
variable {g : sr_O → sr_O} (hg : sr_sh g)
theorem sr_sh_sz {g : sr_O → sr_O} (hg : sr_sh g) (o : sr_O) : sr_sz (g o) = sr_sz o := by unfold sr_sz; rw [(hg o).1, (hg o).2]
theorem sr_up_tot {g : sr_O → sr_O} (hg : sr_sh g) : ∀ (os : List sr_O) (a p : Nat), sr_tot (sr_up g a os p) = sr_tot os
  | [], _, _ => rfl
  | o :: os, a, p => by
    simp only [sr_up]
    split
    · simp only [sr_tot, sr_sh_sz hg]
    · simp only [sr_tot, sr_up_tot hg os]
theorem sr_up_len {g : sr_O → sr_O} : ∀ (os : List sr_O) (a p : Nat), (sr_up g a os p).length = os.length
  | [], _, _ => rfl
  | o :: os, a, p => by
    simp only [sr_up]
    split
    · rfl
    · simp only [List.length_cons, sr_up_len os]
theorem sr_up_ok {g : sr_O → sr_O} (hg : sr_sh g) : ∀ (os : List sr_O) (a p : Nat), sr_ok os → sr_ok (sr_up g a os p)
  | [], _, _, h => h
  | o :: os, a, p, h => by
    have hh : sr_ok os := fun y hy => h y (List.mem_cons_of_mem _ hy)
    simp only [sr_up]
    split
    · intro x hx
      rcases List.mem_cons.mp hx with rfl | hx
      · rw [(hg o).1, (hg o).2]; exact h o List.mem_cons_self
      · exact hh x hx
    · intro x hx
      rcases List.mem_cons.mp hx with rfl | hx
      · exact h _ List.mem_cons_self
      · exact sr_up_ok hg os _ _ hh x hx
theorem sr_up_ob {g : sr_O → sr_O} (hg : sr_sh g) : ∀ (os : List sr_O) (a p q : Nat) (x : sr_O), sr_ob a (sr_up g a os p) q x → (q = p ∧ ∃ o, sr_ob a os p o ∧ x = g o) ∨ (q ≠ p ∧ sr_ob a os q x)
  | [], _, _, _, _, h => h.elim
  | o :: os, a, p, q, x, h => by
    have h3 := sr_sz3 o
    simp only [sr_up] at h
    split at h
    · rename_i hpa
      subst hpa
      rcases h with ⟨rfl, rfl⟩ | h
      · exact Or.inl ⟨rfl, o, Or.inl ⟨rfl, rfl⟩, rfl⟩
      · rw [sr_sh_sz hg] at h
        have := (sr_ob_bd _ _ _ _ h).1
        exact Or.inr ⟨by omega, Or.inr h⟩
    · rename_i hpa
      rcases h with ⟨rfl, rfl⟩ | h
      · exact Or.inr ⟨fun z => hpa z.symm, Or.inl ⟨rfl, rfl⟩⟩
      · rcases sr_up_ob hg os _ _ _ _ h with ⟨h1, y, h2, h4⟩ | ⟨h1, h2⟩
        · exact Or.inl ⟨h1, y, Or.inr h2, h4⟩
        · exact Or.inr ⟨h1, Or.inr h2⟩
theorem sr_up_in {g : sr_O → sr_O} (hg : sr_sh g) : ∀ (os : List sr_O) (a p q : Nat) (x : sr_O), sr_ob a os q x → ∃ y, sr_ob a (sr_up g a os p) q y
  | [], _, _, _, _, h => h.elim
  | o :: os, a, p, q, x, h => by
    simp only [sr_up]
    split
    · rcases h with ⟨rfl, rfl⟩ | h
      · exact ⟨_, Or.inl ⟨rfl, rfl⟩⟩
      · exact ⟨x, Or.inr (by rw [sr_sh_sz hg]; exact h)⟩
    · rcases h with ⟨rfl, rfl⟩ | h
      · exact ⟨_, Or.inl ⟨rfl, rfl⟩⟩
      · obtain ⟨y, hy⟩ := sr_up_in hg os _ p _ _ h
        exact ⟨y, Or.inr hy⟩
end Up
theorem sr_up_ad {g : sr_O → sr_O} (hg : sr_sh g) {os : List sr_O} {p : Nat} {v : Int32} (h : sr_ad os v) : sr_ad (sr_up g 1 os p) v := by
  rcases h with h | ⟨q, x, hq, he⟩
  · exact Or.inl h
  · obtain ⟨y, hy⟩ := sr_up_in hg os 1 p q x hq
    exact Or.inr ⟨q, y, hy, he⟩
theorem sr_up_hz {g : sr_O → sr_O} (hg : sr_sh g) {os : List sr_O} {p : Nat} {F : Nat → Int32} (h : sr_hz F os) : sr_hz F (sr_up g 1 os p) := fun q h1 h2 => h q (fun o ho => by
  obtain ⟨y, hy⟩ := sr_up_in hg os 1 p q o ho
  exact h1 y hy) h2
theorem sr_up_hd {g : sr_O → sr_O} (hg : sr_sh g) {os : List sr_O} {p : Nat} {F W : Nat → Int32} (h : sr_hd F W 1 os) : sr_hd F W 1 (sr_up g 1 os p) := fun q x hx => by
  rcases sr_up_ob hg os 1 p q x hx with ⟨rfl, o, ho, rfl⟩ | ⟨-, ho⟩
  · rw [(hg o).1, (hg o).2]; exact h q o ho
  · exact h q x ho
section One
variable {os : List sr_O} {p : Nat} {o : sr_O} (ho : sr_ob 1 os p o)
/-- a content of the object at p changes: the class's cells, the model's -/
theorem sr_gs_hc {os : List sr_O} {p : Nat} {o : sr_O} (ho : sr_ob 1 os p o) {C : Nat → Int32} (h : sr_hc C 1 os) {i : Nat} (hi : i < o.1 + o.2.1) (v : Int32) : sr_hc (upd C (p + 3 + i) v) 1 (sr_up (sr_gs i v) 1 os p) := by
  have hs : sr_sz o = 3 + o.1 + o.2.1 := rfl
  intro q x hx
  rcases sr_up_ob (sr_gs_sh i v) os 1 p q x hx with ⟨rfl, y, hy, rfl⟩ | ⟨hne, hq⟩
  · obtain rfl := sr_ob_eq ho hy
    obtain ⟨h1, h2, h3⟩ := h q o ho
    refine ⟨?_, ?_, fun j hj => ?_⟩
    · rw [pk_un (by omega)]; exact h1
    · rw [pk_un (by omega)]; exact h2
    · show upd C (q + 3 + i) v (q + 3 + j) = upd o.2.2.2 i v j
      by_cases hji : j = i
      · rw [hji, pk_us, pk_us]
      · rw [pk_un (by omega), pk_un hji]; exact h3 j hj
  · refine sr_ce_frame (h q x hq) fun r h1 h2 h3 => pk_un ?_
    rcases sr_ob_sep os 1 q p x o hq ho with h4 | h4 | h4
    · exact absurd h4.1 hne
    · omega
    · omega
theorem sr_gs_hv {os : List sr_O} {p : Nat} {o : sr_O} (ho : sr_ob 1 os p o) {Nm D : Nat → Int32} (h : sr_hv Nm D 1 os) {i : Nat} (hi : i < o.1 + o.2.1) (v : Int32) : sr_hv Nm (upd D (p + 3 + i) v) 1 (sr_up (sr_gs i v) 1 os p) := by
  have hs : sr_sz o = 3 + o.1 + o.2.1 := rfl
  intro q x hx
  rcases sr_up_ob (sr_gs_sh i v) os 1 p q x hx with ⟨rfl, y, hy, rfl⟩ | ⟨hne, hq⟩
  · obtain rfl := sr_ob_eq ho hy
    refine ⟨(h q o ho).1, fun j hj => ?_⟩
    show upd D (q + 3 + i) v (q + 3 + j) = upd o.2.2.2 i v j
    by_cases hji : j = i
    · rw [hji, pk_us, pk_us]
    · rw [pk_un (by omega), pk_un hji]; exact (h q o ho).2 j hj
  · have hsx : sr_sz x = 3 + x.1 + x.2.1 := rfl
    refine ⟨(h q x hq).1, fun j hj => ?_⟩
    rw [pk_un ?_]
    · exact (h q x hq).2 j hj
    · rcases sr_ob_sep os 1 q p x o hq ho with h4 | h4 | h4
      · exact absurd h4.1 hne
      · omega
      · omega
/-- its number changes -/
theorem sr_gn_hc {os : List sr_O} {p : Nat} {o : sr_O} (ho : sr_ob 1 os p o) {C : Nat → Int32} (h : sr_hc C 1 os) (v : Int32) : sr_hc (upd C (p + 1) v) 1 (sr_up (sr_gn v) 1 os p) := by
  have hs : sr_sz o = 3 + o.1 + o.2.1 := rfl
  intro q x hx
  rcases sr_up_ob (sr_gn_sh v) os 1 p q x hx with ⟨rfl, y, hy, rfl⟩ | ⟨hne, hq⟩
  · obtain rfl := sr_ob_eq ho hy
    obtain ⟨h1, h2, h3⟩ := h q o ho
    refine ⟨?_, ?_, fun j hj => ?_⟩
    · rw [pk_un (by omega)]; exact h1
    · exact pk_us
    · rw [pk_un (by omega)]; exact h3 j hj
  · refine sr_ce_frame (h q x hq) fun r h1 h2 h3 => pk_un ?_
    rcases sr_ob_sep os 1 q p x o hq ho with h4 | h4 | h4
    · exact absurd h4.1 hne
    · omega
    · omega
theorem sr_gn_hv {os : List sr_O} {p : Nat} {o : sr_O} (ho : sr_ob 1 os p o) {Nm D : Nat → Int32} (h : sr_hv Nm D 1 os) (v : Int32) : sr_hv (upd Nm p v) D 1 (sr_up (sr_gn v) 1 os p) := by
  intro q x hx
  rcases sr_up_ob (sr_gn_sh v) os 1 p q x hx with ⟨rfl, y, hy, rfl⟩ | ⟨hne, hq⟩
  · obtain rfl := sr_ob_eq ho hy
    exact ⟨pk_us, (h q o ho).2⟩
  · exact ⟨by rw [pk_un hne]; exact (h q x hq).1, (h q x hq).2⟩
theorem sr_gs_va {os : List sr_O} {p : Nat} {o : sr_O} (ho : sr_ob 1 os p o) {rt : Nat → Int32} (h : sr_va os rt) {i : Nat} {v : Int32} (hv : i < o.1 → sr_ad os v) : sr_va (sr_up (sr_gs i v) 1 os p) rt := by
  refine ⟨fun r hr => sr_up_ad (sr_gs_sh i v) (h.1 r hr), fun q x hx j hj => ?_⟩
  rcases sr_up_ob (sr_gs_sh i v) os 1 p q x hx with ⟨rfl, y, hy, rfl⟩ | ⟨hne, hq⟩
  · obtain rfl := sr_ob_eq ho hy
    show sr_ad _ (upd o.2.2.2 i v j)
    by_cases hji : j = i
    · subst hji; rw [pk_us]; exact sr_up_ad (sr_gs_sh j v) (hv hj)
    · rw [pk_un hji]; exact sr_up_ad (sr_gs_sh i v) (h.2 q o ho j hj)
  · exact sr_up_ad (sr_gs_sh i v) (h.2 q x hq j hj)
theorem sr_gn_va {os : List sr_O} {p : Nat} {rt : Nat → Int32} (h : sr_va os rt) {v : Int32} : sr_va (sr_up (sr_gn v) 1 os p) rt := by
  refine ⟨fun r hr => sr_up_ad (sr_gn_sh v) (h.1 r hr), fun q x hx j hj => ?_⟩
  rcases sr_up_ob (sr_gn_sh v) os 1 p q x hx with ⟨rfl, y, hy, rfl⟩ | ⟨hne, hq⟩
  · exact sr_up_ad (sr_gn_sh v) (h.2 q y hy j hj)
  · exact sr_up_ad (sr_gn_sh v) (h.2 q x hq j hj)
end One
/-! an object more -/
def sr_nw (f w : Nat) : sr_O := (f, w, 0, fun _ => 0)
theorem sr_nw_ob {os : List sr_O} {f w p : Nat} {x : sr_O} : sr_ob 1 (os ++ [sr_nw f w]) p x ↔ sr_ob 1 os p x ∨ (p = 1 + sr_tot os ∧ x = sr_nw f w) := by
  rw [sr_ob_app]
  simp [sr_ob]
theorem sr_nw_tot (os : List sr_O) (f w : Nat) : sr_tot (os ++ [sr_nw f w]) = sr_tot os + (3 + f + w) := by
  rw [sr_tot_app]
  rfl
theorem sr_nw_ok {os : List sr_O} (h : sr_ok os) {f w : Nat} (hf : f ≤ 2000) (hw : w ≤ 2000) : sr_ok (os ++ [sr_nw f w]) := by
  intro x hx
  rcases List.mem_append.mp hx with hx | hx
  · exact h x hx
  · rw [List.mem_singleton.mp hx]; exact ⟨hf, hw⟩
theorem sr_nw_ad {os : List sr_O} {f w : Nat} {v : Int32} (h : sr_ad os v) : sr_ad (os ++ [sr_nw f w]) v := by
  rcases h with h | ⟨q, x, hq, he⟩
  · exact Or.inl h
  · exact Or.inr ⟨q, x, sr_nw_ob.mpr (Or.inl hq), he⟩
theorem sr_nw_va {os : List sr_O} {rt : Nat → Int32} (h : sr_va os rt) {f w : Nat} : sr_va (os ++ [sr_nw f w]) rt := by
  refine ⟨fun r hr => sr_nw_ad (h.1 r hr), fun q x hx j hj => ?_⟩
  rcases sr_nw_ob.mp hx with hx | ⟨-, rfl⟩
  · exact sr_nw_ad (h.2 q x hx j hj)
  · exact Or.inl rfl
theorem sr_nw_hc {os : List sr_O} {C C' : Nat → Int32} (h : sr_hc C 1 os) {f w : Nat} (h1 : ∀ q, q < 1 + sr_tot os → C' q = C q) (h2 : C' (1 + sr_tot os) = nI (f * 4096 + w)) (h3 : ∀ q, 1 + sr_tot os < q → q < 1 + sr_tot os + (3 + f + w) → C' q = 0) : sr_hc C' 1 (os ++ [sr_nw f w]) := by
  intro q x hx
  rcases sr_nw_ob.mp hx with hx | ⟨rfl, rfl⟩
  · have hb := sr_ob_bd _ _ _ _ hx
    exact sr_ce_frame (h q x hx) fun r g1 g2 g3 => h1 r (by omega)
  · exact ⟨h2, h3 _ (by omega) (by omega), fun i hi => by
      have hi' : i < f + w := hi
      exact h3 _ (by omega) (by omega)⟩
theorem sr_nw_hd {os : List sr_O} {F W : Nat → Int32} (h : sr_hd F W 1 os) {f w : Nat} : sr_hd (upd F (1 + sr_tot os) (nI (f + 1))) (upd W (1 + sr_tot os) (nI w)) 1 (os ++ [sr_nw f w]) := by
  intro q x hx
  rcases sr_nw_ob.mp hx with hx | ⟨rfl, rfl⟩
  · have hb := sr_ob_bd _ _ _ _ hx
    have h3 := sr_sz3 x
    rw [pk_un (by omega), pk_un (by omega)]
    exact h q x hx
  · exact ⟨pk_us, pk_us⟩
theorem sr_nw_hv {os : List sr_O} {Nm D D' : Nat → Int32} (h : sr_hv Nm D 1 os) {f w : Nat} (h1 : ∀ q, q < 1 + sr_tot os → D' q = D q) (h2 : ∀ q, 1 + sr_tot os ≤ q → q < 1 + sr_tot os + (3 + f + w) → D' q = 0) : sr_hv (upd Nm (1 + sr_tot os) 0) D' 1 (os ++ [sr_nw f w]) := by
  intro q x hx
  rcases sr_nw_ob.mp hx with hx | ⟨rfl, rfl⟩
  · have hb := sr_ob_bd _ _ _ _ hx
    have hs : sr_sz x = 3 + x.1 + x.2.1 := rfl
    rw [pk_un (by omega)]
    exact ⟨(h q x hx).1, fun i hi => by rw [h1 _ (by omega)]; exact (h q x hx).2 i hi⟩
  · exact ⟨pk_us, fun i hi => by
      have hi' : i < f + w := hi
      exact h2 _ (by omega) (by omega)⟩
theorem sr_nw_hz {os : List sr_O} {F : Nat → Int32} (h : sr_hz F os) {f w : Nat} {v : Int32} : sr_hz (upd F (1 + sr_tot os) v) (os ++ [sr_nw f w]) := by
  intro q h1 h2
  have hne : q ≠ 1 + sr_tot os := fun z => h1 (sr_nw f w) (sr_nw_ob.mpr (Or.inr ⟨z, rfl⟩))
  rw [pk_un hne]
  exact h q (fun o ho => h1 o (sr_nw_ob.mpr (Or.inl ho))) h2
end
section
-- ===== PART A: goes FIRST, ahead of the names: the tables' words, and 'selects' of the private methods out of them =====
/-- a private method of a class that the tables say can be made, by its rows of tables_1 -/
def lw_okq (q : MethodName × Nat) : Prop := (q.1.cls ≠ "java/lang/invoke/MethodHandle" ∧ q.1.cls ≠ "java/lang/invoke/VarHandle") ∧ Cond.instantiable q.1.cls q.2 ∈ tables_1 ∧ Cond.privateMethod q.1 ∈ tables_1 ∧ Cond.instanceMethod q.1 ∈ tables_1
theorem lw_p0 : lw_okq (⟨"SlideRow", "chainReached", "()V"⟩, 11) := ⟨⟨by decide +kernel, by decide +kernel⟩, List.mem_of_getElem? (i := 11) (by decide +kernel), List.mem_of_getElem? (i := 58) (by decide +kernel), List.mem_of_getElem? (i := 59) (by decide +kernel)⟩
theorem lw_p1 : lw_okq (⟨"SlideRow", "clearLinks", "()V"⟩, 11) := ⟨⟨by decide +kernel, by decide +kernel⟩, List.mem_of_getElem? (i := 11) (by decide +kernel), List.mem_of_getElem? (i := 62) (by decide +kernel), List.mem_of_getElem? (i := 63) (by decide +kernel)⟩
theorem lw_p2 : lw_okq (⟨"SlideRow", "write", "(II)V"⟩, 11) := ⟨⟨by decide +kernel, by decide +kernel⟩, List.mem_of_getElem? (i := 11) (by decide +kernel), List.mem_of_getElem? (i := 66) (by decide +kernel), List.mem_of_getElem? (i := 67) (by decide +kernel)⟩
theorem lw_p3 : lw_okq (⟨"SlideRow", "sizeOf", "(I)I"⟩, 11) := ⟨⟨by decide +kernel, by decide +kernel⟩, List.mem_of_getElem? (i := 11) (by decide +kernel), List.mem_of_getElem? (i := 70) (by decide +kernel), List.mem_of_getElem? (i := 71) (by decide +kernel)⟩
theorem lw_p4 : lw_okq (⟨"SlideRow", "read", "(I)I"⟩, 11) := ⟨⟨by decide +kernel, by decide +kernel⟩, List.mem_of_getElem? (i := 11) (by decide +kernel), List.mem_of_getElem? (i := 74) (by decide +kernel), List.mem_of_getElem? (i := 75) (by decide +kernel)⟩
theorem lw_p5 : lw_okq (⟨"SlideRow", "reach", "(I)V"⟩, 11) := ⟨⟨by decide +kernel, by decide +kernel⟩, List.mem_of_getElem? (i := 11) (by decide +kernel), List.mem_of_getElem? (i := 78) (by decide +kernel), List.mem_of_getElem? (i := 79) (by decide +kernel)⟩
theorem lw_p6 : lw_okq (⟨"SlideRow", "reachFieldsOf", "(I)V"⟩, 11) := ⟨⟨by decide +kernel, by decide +kernel⟩, List.mem_of_getElem? (i := 11) (by decide +kernel), List.mem_of_getElem? (i := 82) (by decide +kernel), List.mem_of_getElem? (i := 83) (by decide +kernel)⟩
theorem lw_p7 : lw_okq (⟨"SlideRow", "fieldsOf", "(I)I"⟩, 11) := ⟨⟨by decide +kernel, by decide +kernel⟩, List.mem_of_getElem? (i := 11) (by decide +kernel), List.mem_of_getElem? (i := 86) (by decide +kernel), List.mem_of_getElem? (i := 87) (by decide +kernel)⟩
theorem lw_p8 : lw_okq (⟨"SlideRow", "choosePlaces", "()I"⟩, 11) := ⟨⟨by decide +kernel, by decide +kernel⟩, List.mem_of_getElem? (i := 11) (by decide +kernel), List.mem_of_getElem? (i := 90) (by decide +kernel), List.mem_of_getElem? (i := 91) (by decide +kernel)⟩
theorem lw_p9 : lw_okq (⟨"SlideRow", "redirectRoots", "()V"⟩, 11) := ⟨⟨by decide +kernel, by decide +kernel⟩, List.mem_of_getElem? (i := 11) (by decide +kernel), List.mem_of_getElem? (i := 94) (by decide +kernel), List.mem_of_getElem? (i := 95) (by decide +kernel)⟩
theorem lw_p10 : lw_okq (⟨"SlideRow", "placeOf", "(I)I"⟩, 11) := ⟨⟨by decide +kernel, by decide +kernel⟩, List.mem_of_getElem? (i := 11) (by decide +kernel), List.mem_of_getElem? (i := 98) (by decide +kernel), List.mem_of_getElem? (i := 99) (by decide +kernel)⟩
theorem lw_p11 : lw_okq (⟨"SlideRow", "redirectFields", "()V"⟩, 11) := ⟨⟨by decide +kernel, by decide +kernel⟩, List.mem_of_getElem? (i := 11) (by decide +kernel), List.mem_of_getElem? (i := 102) (by decide +kernel), List.mem_of_getElem? (i := 103) (by decide +kernel)⟩
theorem lw_p12 : lw_okq (⟨"SlideRow", "redirectFieldsOf", "(I)V"⟩, 11) := ⟨⟨by decide +kernel, by decide +kernel⟩, List.mem_of_getElem? (i := 11) (by decide +kernel), List.mem_of_getElem? (i := 106) (by decide +kernel), List.mem_of_getElem? (i := 107) (by decide +kernel)⟩
theorem lw_p13 : lw_okq (⟨"SlideRow", "moveReached", "()V"⟩, 11) := ⟨⟨by decide +kernel, by decide +kernel⟩, List.mem_of_getElem? (i := 11) (by decide +kernel), List.mem_of_getElem? (i := 110) (by decide +kernel), List.mem_of_getElem? (i := 111) (by decide +kernel)⟩
theorem lw_p14 : lw_okq (⟨"SlideRow", "moveCells", "(III)V"⟩, 11) := ⟨⟨by decide +kernel, by decide +kernel⟩, List.mem_of_getElem? (i := 11) (by decide +kernel), List.mem_of_getElem? (i := 114) (by decide +kernel), List.mem_of_getElem? (i := 115) (by decide +kernel)⟩
theorem lw_p15 : lw_okq (⟨"java/lang/Throwable", "fillInStackTrace", "(I)Ljava/lang/Throwable;"⟩, 6) := ⟨⟨by decide +kernel, by decide +kernel⟩, List.mem_of_getElem? (i := 170) (by decide +kernel), List.mem_of_getElem? (i := 168) (by decide +kernel), List.mem_of_getElem? (i := 169) (by decide +kernel)⟩
def lw_privs_1 : List (MethodName × Nat) := [(⟨"SlideRow", "chainReached", "()V"⟩, 11), (⟨"SlideRow", "clearLinks", "()V"⟩, 11), (⟨"SlideRow", "write", "(II)V"⟩, 11), (⟨"SlideRow", "sizeOf", "(I)I"⟩, 11), (⟨"SlideRow", "read", "(I)I"⟩, 11), (⟨"SlideRow", "reach", "(I)V"⟩, 11), (⟨"SlideRow", "reachFieldsOf", "(I)V"⟩, 11), (⟨"SlideRow", "fieldsOf", "(I)I"⟩, 11), (⟨"SlideRow", "choosePlaces", "()I"⟩, 11), (⟨"SlideRow", "redirectRoots", "()V"⟩, 11), (⟨"SlideRow", "placeOf", "(I)I"⟩, 11), (⟨"SlideRow", "redirectFields", "()V"⟩, 11), (⟨"SlideRow", "redirectFieldsOf", "(I)V"⟩, 11), (⟨"SlideRow", "moveReached", "()V"⟩, 11), (⟨"SlideRow", "moveCells", "(III)V"⟩, 11), (⟨"java/lang/Throwable", "fillInStackTrace", "(I)Ljava/lang/Throwable;"⟩, 6)]
theorem lw_r1 : ∀ q ∈ lw_privs_1, lw_okq q := List.forall_mem_cons.mpr ⟨lw_p0, List.forall_mem_cons.mpr ⟨lw_p1, List.forall_mem_cons.mpr ⟨lw_p2, List.forall_mem_cons.mpr ⟨lw_p3, List.forall_mem_cons.mpr ⟨lw_p4, List.forall_mem_cons.mpr ⟨lw_p5, List.forall_mem_cons.mpr ⟨lw_p6, List.forall_mem_cons.mpr ⟨lw_p7, List.forall_mem_cons.mpr ⟨lw_p8, List.forall_mem_cons.mpr ⟨lw_p9, List.forall_mem_cons.mpr ⟨lw_p10, List.forall_mem_cons.mpr ⟨lw_p11, List.forall_mem_cons.mpr ⟨lw_p12, List.forall_mem_cons.mpr ⟨lw_p13, List.forall_mem_cons.mpr ⟨lw_p14, List.forall_mem_cons.mpr ⟨lw_p15, fun _ h => absurd h List.not_mem_nil⟩⟩⟩⟩⟩⟩⟩⟩⟩⟩⟩⟩⟩⟩⟩⟩
theorem lw_p16 : lw_okq (⟨"SlideRow", "forgetAll", "()V"⟩, 11) := ⟨⟨by decide +kernel, by decide +kernel⟩, List.mem_of_getElem? (i := 11) (by decide +kernel), List.mem_of_getElem? (i := 200) (by decide +kernel), List.mem_of_getElem? (i := 201) (by decide +kernel)⟩
theorem lw_p17 : lw_okq (⟨"SlideRow", "clearCells", "(II)V"⟩, 11) := ⟨⟨by decide +kernel, by decide +kernel⟩, List.mem_of_getElem? (i := 11) (by decide +kernel), List.mem_of_getElem? (i := 218) (by decide +kernel), List.mem_of_getElem? (i := 219) (by decide +kernel)⟩
theorem lw_p18 : lw_okq (⟨"SlideRow", "fieldCell", "(II)I"⟩, 11) := ⟨⟨by decide +kernel, by decide +kernel⟩, List.mem_of_getElem? (i := 11) (by decide +kernel), List.mem_of_getElem? (i := 230) (by decide +kernel), List.mem_of_getElem? (i := 231) (by decide +kernel)⟩
theorem lw_p19 : lw_okq (⟨"SlideRow", "needObject", "(I)V"⟩, 11) := ⟨⟨by decide +kernel, by decide +kernel⟩, List.mem_of_getElem? (i := 11) (by decide +kernel), List.mem_of_getElem? (i := 234) (by decide +kernel), List.mem_of_getElem? (i := 235) (by decide +kernel)⟩
theorem lw_p20 : lw_okq (⟨"SlideRow", "isObject", "(I)Z"⟩, 11) := ⟨⟨by decide +kernel, by decide +kernel⟩, List.mem_of_getElem? (i := 11) (by decide +kernel), List.mem_of_getElem? (i := 238) (by decide +kernel), List.mem_of_getElem? (i := 239) (by decide +kernel)⟩
theorem lw_p21 : lw_okq (⟨"SlideRow", "needObjectOrNothing", "(I)V"⟩, 11) := ⟨⟨by decide +kernel, by decide +kernel⟩, List.mem_of_getElem? (i := 11) (by decide +kernel), List.mem_of_getElem? (i := 259) (by decide +kernel), List.mem_of_getElem? (i := 260) (by decide +kernel)⟩
theorem lw_p22 : lw_okq (⟨"SlideRow", "replace", "(II)I"⟩, 11) := ⟨⟨by decide +kernel, by decide +kernel⟩, List.mem_of_getElem? (i := 11) (by decide +kernel), List.mem_of_getElem? (i := 263) (by decide +kernel), List.mem_of_getElem? (i := 264) (by decide +kernel)⟩
theorem lw_p23 : lw_okq (⟨"SlideRow", "wordCell", "(II)I"⟩, 11) := ⟨⟨by decide +kernel, by decide +kernel⟩, List.mem_of_getElem? (i := 11) (by decide +kernel), List.mem_of_getElem? (i := 281) (by decide +kernel), List.mem_of_getElem? (i := 282) (by decide +kernel)⟩
theorem lw_p24 : lw_okq (⟨"SlideRow", "wordsOf", "(I)I"⟩, 11) := ⟨⟨by decide +kernel, by decide +kernel⟩, List.mem_of_getElem? (i := 11) (by decide +kernel), List.mem_of_getElem? (i := 285) (by decide +kernel), List.mem_of_getElem? (i := 286) (by decide +kernel)⟩
theorem lw_p25 : lw_okq (⟨"SlideRow", "needRoot", "(I)V"⟩, 11) := ⟨⟨by decide +kernel, by decide +kernel⟩, List.mem_of_getElem? (i := 11) (by decide +kernel), List.mem_of_getElem? (i := 304) (by decide +kernel), List.mem_of_getElem? (i := 305) (by decide +kernel)⟩
theorem lw_p26 : lw_okq (⟨"SlideRowModel", "goes", "(Z)Z"⟩, 13) := ⟨⟨by decide +kernel, by decide +kernel⟩, List.mem_of_getElem? (i := 338) (by decide +kernel), List.mem_of_getElem? (i := 393) (by decide +kernel), List.mem_of_getElem? (i := 394) (by decide +kernel)⟩
theorem lw_p27 : lw_okq (⟨"SlideRowModel", "isField", "(II)Z"⟩, 13) := ⟨⟨by decide +kernel, by decide +kernel⟩, List.mem_of_getElem? (i := 338) (by decide +kernel), List.mem_of_getElem? (i := 405) (by decide +kernel), List.mem_of_getElem? (i := 406) (by decide +kernel)⟩
theorem lw_p28 : lw_okq (⟨"SlideRowModel", "isObject", "(I)Z"⟩, 13) := ⟨⟨by decide +kernel, by decide +kernel⟩, List.mem_of_getElem? (i := 338) (by decide +kernel), List.mem_of_getElem? (i := 409) (by decide +kernel), List.mem_of_getElem? (i := 410) (by decide +kernel)⟩
theorem lw_p29 : lw_okq (⟨"SlideRowModel", "isWord", "(II)Z"⟩, 13) := ⟨⟨by decide +kernel, by decide +kernel⟩, List.mem_of_getElem? (i := 338) (by decide +kernel), List.mem_of_getElem? (i := 421) (by decide +kernel), List.mem_of_getElem? (i := 422) (by decide +kernel)⟩
theorem lw_p30 : lw_okq (⟨"SlideRowModel", "reach", "()I"⟩, 13) := ⟨⟨by decide +kernel, by decide +kernel⟩, List.mem_of_getElem? (i := 338) (by decide +kernel), List.mem_of_getElem? (i := 444) (by decide +kernel), List.mem_of_getElem? (i := 445) (by decide +kernel)⟩
theorem lw_p31 : lw_okq (⟨"SlideRowModel", "size", "(I)I"⟩, 13) := ⟨⟨by decide +kernel, by decide +kernel⟩, List.mem_of_getElem? (i := 338) (by decide +kernel), List.mem_of_getElem? (i := 448) (by decide +kernel), List.mem_of_getElem? (i := 449) (by decide +kernel)⟩
def lw_privs_2 : List (MethodName × Nat) := [(⟨"SlideRow", "forgetAll", "()V"⟩, 11), (⟨"SlideRow", "clearCells", "(II)V"⟩, 11), (⟨"SlideRow", "fieldCell", "(II)I"⟩, 11), (⟨"SlideRow", "needObject", "(I)V"⟩, 11), (⟨"SlideRow", "isObject", "(I)Z"⟩, 11), (⟨"SlideRow", "needObjectOrNothing", "(I)V"⟩, 11), (⟨"SlideRow", "replace", "(II)I"⟩, 11), (⟨"SlideRow", "wordCell", "(II)I"⟩, 11), (⟨"SlideRow", "wordsOf", "(I)I"⟩, 11), (⟨"SlideRow", "needRoot", "(I)V"⟩, 11), (⟨"SlideRowModel", "goes", "(Z)Z"⟩, 13), (⟨"SlideRowModel", "isField", "(II)Z"⟩, 13), (⟨"SlideRowModel", "isObject", "(I)Z"⟩, 13), (⟨"SlideRowModel", "isWord", "(II)Z"⟩, 13), (⟨"SlideRowModel", "reach", "()I"⟩, 13), (⟨"SlideRowModel", "size", "(I)I"⟩, 13)]
theorem lw_r2 : ∀ q ∈ lw_privs_2, lw_okq q := List.forall_mem_cons.mpr ⟨lw_p16, List.forall_mem_cons.mpr ⟨lw_p17, List.forall_mem_cons.mpr ⟨lw_p18, List.forall_mem_cons.mpr ⟨lw_p19, List.forall_mem_cons.mpr ⟨lw_p20, List.forall_mem_cons.mpr ⟨lw_p21, List.forall_mem_cons.mpr ⟨lw_p22, List.forall_mem_cons.mpr ⟨lw_p23, List.forall_mem_cons.mpr ⟨lw_p24, List.forall_mem_cons.mpr ⟨lw_p25, List.forall_mem_cons.mpr ⟨lw_p26, List.forall_mem_cons.mpr ⟨lw_p27, List.forall_mem_cons.mpr ⟨lw_p28, List.forall_mem_cons.mpr ⟨lw_p29, List.forall_mem_cons.mpr ⟨lw_p30, List.forall_mem_cons.mpr ⟨lw_p31, fun _ h => absurd h List.not_mem_nil⟩⟩⟩⟩⟩⟩⟩⟩⟩⟩⟩⟩⟩⟩⟩⟩
theorem lw_p32 : lw_okq (⟨"SlideRowModel", "objects", "()I"⟩, 13) := ⟨⟨by decide +kernel, by decide +kernel⟩, List.mem_of_getElem? (i := 338) (by decide +kernel), List.mem_of_getElem? (i := 452) (by decide +kernel), List.mem_of_getElem? (i := 453) (by decide +kernel)⟩
theorem lw_p33 : lw_okq (⟨"SlideRowModel", "bring", "(II)V"⟩, 13) := ⟨⟨by decide +kernel, by decide +kernel⟩, List.mem_of_getElem? (i := 338) (by decide +kernel), List.mem_of_getElem? (i := 456) (by decide +kernel), List.mem_of_getElem? (i := 457) (by decide +kernel)⟩
def lw_privs_3 : List (MethodName × Nat) := [(⟨"SlideRowModel", "objects", "()I"⟩, 13), (⟨"SlideRowModel", "bring", "(II)V"⟩, 13)]
theorem lw_r3 : ∀ q ∈ lw_privs_3, lw_okq q := List.forall_mem_cons.mpr ⟨lw_p32, List.forall_mem_cons.mpr ⟨lw_p33, fun _ h => absurd h List.not_mem_nil⟩⟩
def lw_privs : List (MethodName × Nat) := lw_privs_1 ++ (lw_privs_2 ++ (lw_privs_3))
def lw_tbl : List Cond := k2_sels lw_privs ++ tables_1
theorem lw_privs_ok : ∀ q ∈ lw_privs, lw_okq q := by
  show ∀ q ∈ lw_privs_1 ++ (lw_privs_2 ++ (lw_privs_3)), lw_okq q
  exact List.forall_mem_append.mpr ⟨lw_r1, List.forall_mem_append.mpr ⟨lw_r2, lw_r3⟩⟩
end
section
/-! ===== BEGIN words of one list among another's, by their places ===== -/
theorem goodIn_r {big : List Cond} (ws : List Cond) (ps : List Nat) (hp : ws = ps.filterMap (fun i => big[i]?)) (h : ws.all goodWord = true) : GoodIn big ws := by
  intro w hw
  have h1 := List.all_eq_true.mp h w hw
  rw [hp] at hw
  obtain ⟨i, -, hi⟩ := List.mem_filterMap.mp hw
  have hm : w ∈ big := by first | exact List.mem_of_getElem? hi | exact List.getElem?_mem hi
  exact ⟨hm, good_of_word h1⟩
theorem goodIn_app {big a b : List Cond} (ha : GoodIn big a) (hb : GoodIn big b) : GoodIn big (a ++ b) := fun w h => (List.mem_append.mp h).elim (ha w) (hb w)
theorem goodIn_ca {big a b : List Cond} {c : Cond} (ha : GoodIn big (c :: a)) (hb : GoodIn big b) : GoodIn big (c :: (a ++ b)) := fun w h => (List.mem_cons.mp h).elim (fun e => ha w (List.mem_cons.mpr (Or.inl e))) (fun h => (List.mem_append.mp h).elim (fun h => ha w (List.mem_cons.mpr (Or.inr h))) (hb w))
theorem goodIn_sub {big ws : List Cond} (hm : ∀ w ∈ ws, w ∈ big) (h : ws.all goodWord = true) : GoodIn big ws := fun w hw => ⟨hm w hw, good_of_word (List.all_eq_true.mp h w hw)⟩
/-! ===== END ===== -/

/-! ===== BEGIN exceptions that leave a method, and their catching by the caller (launches without stack traces) ===== -/
section VXA
/-! The laws vx_back, vx_callV, vx_callS, vx_callSW, vx_throw0, vx_throwS follow proofs of the library, with one case more: JvmDerived/Free/Laws.lean (Back.of_free), Shelf42/LK1.lean (callV, callS), Shelf/KitTraced.lean (throwNew0V, throwNewS). -/
/-- where a method has thrown q: the class by its name, the cell, what was written, the world -/
def vx_T (XC : String → State → State → Prop) (st : State) (q : Addr) (t : State) (mc ms : Nat) (free : Addr → Prop) : Prop :=
  ∃ (E : String) (ce : Cell) (L : List Loc), XC E st t ∧ t.heap[q]? = some ce ∧ ce.vm = .none ∧ st.vm.findClass E = some ce.cls ∧ st.WarmedH t.vm ∧ st.sameButNew ({ t with vm := st.vm } : State) L mc ms ∧ ∀ z ∈ L, free z.base
def vx_Q (Qc : Array Value → State → Outcome → State → Prop) (XC : String → State → State → Prop) (mc ms : Nat) (free : Addr → Prop) : Array Value → State → Outcome → State → Prop := fun a st o t =>
  (Qc a st o t ∧ ∃ L, FrameEnd st o t L mc ms ∧ ∀ q ∈ L, free q.base) ∨ ∃ q, o = .threw q ∧ vx_T XC st q t mc ms free
/-- a callee that returns or throws -/
def vx_Met (l : Launch) (y : MethodName) (ws : List Cond) (rm : Room) (Pc : Array Value → State → Prop) (Qc : Array Value → State → Outcome → State → Prop) (XC : String → State → State → Prop) (mc ms : Nat) (free : Addr → Prop) : Prop :=
  MetFree l y (headSpec ws rm) Pc (fun _ _ _ _ _ => True) (vx_Q Qc XC mc ms free)
def vx_Post (XC : String → State → State → Prop) (mc ms : Nat) (free : Addr → Prop) : Pt → Array Value → Addr → Pt → Prop := fun A a q B =>
  ∃ (g : JFrame) (mk : MethodId) (t : State) (L : List Loc) (E : String) (ce : Cell), B.U.heap = t.heap ∧ B.U.vm = t.vm ∧ XC E (A.U.calling g mk a) t ∧ t.heap[q]? = some ce ∧ ce.vm = .none ∧ A.U.vm.findClass E = some ce.cls ∧ B.locs = A.locs ++ L ∧ (∀ z ∈ L, free z.base) ∧ B.cells = A.cells + mc ∧ B.slots = A.slots + ms
def vx_Back (l : Launch) (R : Room) (p : Program) (e : Env) (below : List Frame) (s : State) (sargs : Array Value) (y : MethodName) (len W9 : Nat)
    (Pre : Pt → Array Value → Prop) (Post : Pt → Array Value → Option Value → Pt → Prop) (PostX : Pt → Array Value → Addr → Pt → Prop) : Prop :=
  ∀ (m : MethodId) (meth : Method) (c : Code) (A : Pt) (g : JFrame) (ig : Instr) (mk : MethodId) (a : Array Value),
    Stand p l e R s m sargs below meth c A.U A.locs A.cells A.slots → g.method = m → g.locals.size = c.maxLocals → decode c.code g.pc = .ok (ig, len) →
    2 * g.monitorRoom + (g.stack.map fun v => v.category).sum ≤ W9 → A.U.methodNamed? y = some mk → Pre A a →
    (∃ (v : Option Value) (B : Pt), Stand p l e R s m sargs below meth c B.U B.locs B.cells B.slots ∧ Post A a v B ∧
      Steps p.tables e below (doInvoke e (A.U.setTop g) [] mk a).1 (B.U.setTop { g with pc := g.pc + len, stack := v.toList ++ g.stack })) ∨
    (∃ (q : Addr) (B : Pt), Stand p l e R s m sargs below meth c B.U B.locs B.cells B.slots ∧ PostX A a q B ∧
      Steps p.tables e below (doInvoke e (A.U.setTop g) [] mk a).1 ((B.U.setTop g).pushFrame (.throwing q)))
section Payer
variable {l : Launch} {R : Room} {p : Program} {e : Env} {below : List Frame} {s : State} {sargs : Array Value} {y : MethodName} {len W9 : Nat}
theorem vx_back {ws : List Cond} {rm : Room} {Pc : Array Value → State → Prop} {Qc : Array Value → State → Outcome → State → Prop} {XC : String → State → State → Prop} {mc ms : Nat} {free : Addr → Prop} {bytes : ByteArray} {maxL : Nat} {ret : Option FieldType}
    (hM : vx_Met l y ws rm Pc Qc XC mc ms free) (hblind : FrameBlind Pc) (hrc : rm.cells = mc) (hrs : rm.slots = ms)
    (hframes : rm.frames + 1 ≤ R.frames) (hlocals : W9 + (maxL + 11) + rm.locals ≤ R.locals)
    (hws : ∀ w ∈ ws, ∀ a' U, s.WarmedH U.vm → w.before a' U = true) (hcode : Cond.code y bytes maxL ret ∈ ws) (hinit : ∀ a' U, s.WarmedH U.vm → (Cond.initialized y.cls).before a' U = true) :
    vx_Back l R p e below s sargs y len W9 (PreOf R mc ms Pc) (PostOf Qc mc ms free) (vx_Post XC mc ms free) := by
  intro m meth c A g ig mk a X hg hsize hdg hW hn hp
  have h1 : (headSpec ws rm).pre.before a A.U = true := atoms_intro fun w hw => hws w hw _ _ X.warmed
  have h2 : (Cond.code y bytes maxL ret).before a A.U = true := hws _ hcode _ _ X.warmed
  have h3 : (Cond.initialized y.cls).before a A.U = true := hinit _ _ X.warmed
  have h4 : A.cells + (headSpec ws rm).room.cells ≤ R.cells := by rw [show (headSpec ws rm).room.cells = mc from hrc]; exact hp.1
  have h5 : A.slots + (headSpec ws rm).room.slots ≤ R.slots := by rw [show (headSpec ws rm).room.slots = ms from hrs]; exact hp.2.1
  have hPc : Pc a (A.U.calling g mk a) := hblind _ _ _ _ hp.2.2
  obtain ⟨U, Ls, c0, s0⟩ := A
  dsimp only [Pt.U, Pt.locs, Pt.cells, Pt.slots] at h1 h2 h3 h4 h5 X hn hPc ⊢
  obtain ⟨methY, cY, hmY, hcY, -, hlY, -, -, -, -⟩ := Cond.code_spec hn h2
  obtain ⟨kY, hkY, -⟩ := className_of_methodNamed hn
  have hinitY : kY.init = .initialized := Cond.initialized_spec (findClass_of_methodNamed hn) hkY h3
  have h : At U g.method c below := by rw [hg]; exact X.here
  have hlocals9 : W9 + (maxL + 11) + (headSpec ws rm).room.locals ≤ R.locals := hlocals
  have happ : (headSpec ws rm).appliesLoose y e.platform (U.calling g mk a) = true :=
    Spec.appliesLoose_calling (g := g) h hdg hn hkY hinitY
      (X.room_calling (g := g) (R' := (headSpec ws rm).room) hsize hmY hcY hframes (by rw [hlY]; omega) h4 h5) h1
  obtain ⟨mid, hmid⟩ := h.above
  have hfr : (U.setTop g).frames = (.java g :: mid) ++ below := by rw [State.frames_setTop' g h.top, hmid]; rfl
  obtain ⟨o, s₂, hsteps, -, hend, hq⟩ := Steps.callFree hM p X.admits X.cas X.clock (acts := []) hfr happ hPc trivial
  have hq' : vx_Q Qc XC mc ms free a (U.calling g mk a) o s₂ := hq
  rw [State.frames_setTop' g h.top] at hend
  obtain ⟨g₀, hg0⟩ := Option.isSome_iff_exists.mp h.top
  obtain ⟨r, hr⟩ := State.topJava?_eq_some.mp hg0
  have hr' : (({ U with heap := s₂.heap, slotsUsed := s₂.slotsUsed } : State).setVm s₂.vm).frames = .java g₀ :: r := hr
  rcases hq' with ⟨hqc, L, hfe, hL⟩ | ⟨q, rfl, E, ce, L, hx, hce, hcv, hcl, hW₂, hsm, hL⟩
  · obtain ⟨⟨v, rfl⟩, hW₂, e2, q2, q3, q4, q5, q6⟩ := id hfe
    have e3 : s₂ = ({ (U.calling g mk a).setFrames s₂.frames with heap := s₂.heap, slotsUsed := s₂.slotsUsed } : State).setVm s₂.vm := by
      have : s₂ = ({ s₂ with vm := (U.calling g mk a).vm } : State).setVm s₂.vm := rfl
      rw [e2] at this
      exact this
    obtain ⟨c₂, i₂, len₂, hc₂, hd₂, hf₂⟩ := hend
    have hW' : U.WarmedH s₂.vm := hW₂
    have hcc : c₂ = c := by
      have h1 : s₂.code? g.method = U.code? g.method := by
        rw [State.code?_eq, State.code?_eq, hW'.alike.method?]
      exact Option.some.inj (hc₂.symm.trans (h1.trans h.code))
    subst hcc
    have hlen : len₂ = len := by rw [hdg] at hd₂; cases hd₂; rfl
    subst hlen
    have hs₂ : s₂ = (({ U with heap := s₂.heap, slotsUsed := s₂.slotsUsed } : State).setVm s₂.vm).setTop { g with pc := g.pc + len₂, stack := v.toList ++ g.stack } := by
      refine e3.trans ?_
      rw [hf₂, State.calling_eq h.top, State.setFrames_setFrames, State.setTop_of_frames _ hr', hr]
      rfl
    have hsame : U.sameButNew ({ U with heap := s₂.heap, slotsUsed := s₂.slotsUsed } : State) L mc ms := by
      refine ⟨?_, q2, q3, q4, q5, q6⟩
      obtain ⟨t, ht, -⟩ := State.frames_cons hr
      show ({ U with heap := s₂.heap, slotsUsed := s₂.slotsUsed } : State) = { U.setFrames U.frames with heap := s₂.heap, slotsUsed := s₂.slotsUsed }
      rw [State.setFrames_self ht]
    subst hg
    refine Or.inl ⟨v, ⟨(({ U with heap := s₂.heap, slotsUsed := s₂.slotsUsed } : State).setVm s₂.vm), Ls ++ L, c0 + mc, s0 + ms⟩,
      ⟨X.admits, X.cas, X.clock, X.frames, X.room, X.hears, X.method, X.code, (X.here.setHeapUsed s₂.heap s₂.slotsUsed).setVm hW'.alike, X.tail, State.WarmedH.trans X.warmed hW', X.limits, X.bytes, X.same.trans (hsame.setVm s.vm)⟩,
      ⟨g, mk, s₂, L, rfl, rfl, hqc, rfl, hL, rfl, rfl⟩, ?_⟩
    show Steps p.tables e below _ ((({ U with heap := s₂.heap, slotsUsed := s₂.slotsUsed } : State).setVm s₂.vm).setTop { g with pc := g.pc + len₂, stack := v.toList ++ g.stack })
    rw [← hs₂]
    exact hsteps
  · obtain ⟨e2, q2, q3, q4, q5, q6⟩ := id hsm
    have e3 : s₂ = ({ (U.calling g mk a).setFrames s₂.frames with heap := s₂.heap, slotsUsed := s₂.slotsUsed } : State).setVm s₂.vm := by
      have : s₂ = ({ s₂ with vm := (U.calling g mk a).vm } : State).setVm s₂.vm := rfl
      rw [e2] at this
      exact this
    have hf₂ : s₂.frames = .throwing q :: .java g :: U.frames.tail := hend
    have hW' : U.WarmedH s₂.vm := hW₂
    have hs₂ : s₂ = ((({ U with heap := s₂.heap, slotsUsed := s₂.slotsUsed } : State).setVm s₂.vm).setTop g).pushFrame (.throwing q) := by
      refine e3.trans ?_
      rw [hf₂, State.calling_eq h.top, State.setFrames_setFrames, State.pushFrame, State.frames_setTop _ hr', State.setTop_of_frames _ hr', State.setFrames_setFrames, hr]
      rfl
    have hsame : U.sameButNew ({ U with heap := s₂.heap, slotsUsed := s₂.slotsUsed } : State) L mc ms := by
      refine ⟨?_, q2, q3, q4, q5, q6⟩
      obtain ⟨t, ht, -⟩ := State.frames_cons hr
      show ({ U with heap := s₂.heap, slotsUsed := s₂.slotsUsed } : State) = { U.setFrames U.frames with heap := s₂.heap, slotsUsed := s₂.slotsUsed }
      rw [State.setFrames_self ht]
    subst hg
    refine Or.inr ⟨q, ⟨(({ U with heap := s₂.heap, slotsUsed := s₂.slotsUsed } : State).setVm s₂.vm), Ls ++ L, c0 + mc, s0 + ms⟩,
      ⟨X.admits, X.cas, X.clock, X.frames, X.room, X.hears, X.method, X.code, (X.here.setHeapUsed s₂.heap s₂.slotsUsed).setVm hW'.alike, X.tail, State.WarmedH.trans X.warmed hW', X.limits, X.bytes, X.same.trans (hsame.setVm s.vm)⟩,
      ⟨g, mk, s₂, L, E, ce, rfl, rfl, hx, hce, hcv, hcl, rfl, hL, rfl, rfl⟩, ?_⟩
    show Steps p.tables e below _ (((({ U with heap := s₂.heap, slotsUsed := s₂.slotsUsed } : State).setVm s₂.vm).setTop g).pushFrame (.throwing q))
    rw [← hs₂]
    exact hsteps
end Payer
section Calls
variable {p : Program} {l : Launch} {e : Env} {R : Room} {s : State} {m : MethodId} {args : Array Value} {below : List Frame} {meth : Method} {c : Code} {T : State} {locs : List Loc} {cells slots : Nat}
theorem vx_callV (X : Stand p l e R s m args below meth c T locs cells slots) (hexec : p.tables.exec = Jvm.exec) {own C : String} {index : Nat} {y : MethodName} {bytes : ByteArray} {maxL : Nat} {ret : Option FieldType}
    (hown : s.vm.findClass own = some m.cls) (hlink : (Cond.methodLink own index y).before args s = true) (hinst : (Cond.instanceMethod y).before args s = true) (hsel : (Cond.selects C y y).before args s = true)
    (hcode : (Cond.code y bytes maxL ret).before args s = true) (hy : y.cls ≠ "java/lang/invoke/MethodHandle" ∧ y.cls ≠ "java/lang/invoke/VarHandle")
    {W9 : Nat} {Pre : Pt → Array Value → Prop} {Post : Pt → Array Value → Option Value → Pt → Prop} {PostX : Pt → Array Value → Addr → Pt → Prop} (hK : vx_Back l R p e below s args y 3 W9 Pre Post PostX)
    {b : Addr} {cellB : Cell} (hcell : T.heap[b]? = some cellB) (hobj : cellB.vm.isStatics = false) (hcls : s.vm.findClass C = some cellB.cls)
    {g : JFrame} (hg : g.method = m) (hsize : g.locals.size = c.maxLocals) {argsL rest : List Value} (hlen : ∀ sig, parseMethodDescriptor y.desc = some sig → argsL.length = sig.parameters.length)
    (hstack : g.stack = argsL.reverse ++ .ref b :: rest) (hW : 2 * g.monitorRoom + (rest.map fun v => v.category).sum ≤ W9) (hdg : decode c.code g.pc = .ok (.invokevirtual index, 3))
    (hpre : ∀ vm₁, s.WarmedH vm₁ → Pre ⟨T.setVm vm₁, locs, cells, slots⟩ (Value.ref b :: argsL).toArray) :
    (∃ (v : Option Value) (vm₁ : Vm) (B : Pt), s.WarmedH vm₁ ∧ Stand p l e R s m args below meth c B.U B.locs B.cells B.slots ∧ Post ⟨T.setVm vm₁, locs, cells, slots⟩ (Value.ref b :: argsL).toArray v B ∧
      ∀ target, Steps p.tables e below (B.U.setTop { g with pc := g.pc + 3, stack := v.toList ++ rest }) target → Steps p.tables e below (T.setTop g) target) ∨
    (∃ (q : Addr) (vm₁ : Vm) (B : Pt), s.WarmedH vm₁ ∧ Stand p l e R s m args below meth c B.U B.locs B.cells B.slots ∧ PostX ⟨T.setVm vm₁, locs, cells, slots⟩ (Value.ref b :: argsL).toArray q B ∧
      Steps p.tables e below (T.setTop g) ((B.U.setTop { g with stack := rest }).pushFrame (.throwing q))) := by
  obtain ⟨mk, methM, hnamed, hmethM, hstM, habM⟩ := Cond.instanceMethod_spec hinst
  obtain ⟨methM', cM, hmethM', -, -, -, -, -, -, hsigM⟩ := Cond.code_spec hnamed hcode
  cases hmethM.symm.trans hmethM'
  obtain ⟨c2, r2, m2, q1, q2, q3, q4, kP, hkP, hkPi⟩ := Cond.selects_spec hsel
  cases hcls.symm.trans q1
  cases (State.methodFound?_of_named hnamed hy).symm.trans q2
  cases hnamed.symm.trans q3
  have hselP : selectMethod e.platform s.vm cellB.cls mk = .method mk := by rw [Launch.admits_selectMethod X.admits]; exact q4
  obtain ⟨vm₁, X₁, hstep₁⟩ := X.invokevirtual hexec hown hlink hnamed hmethM hstM hkP hkPi hy (a := b) (cell := cellB) hcell
    (fun z h => by rw [h] at hobj; cases hobj) hselP hmethM habM hkP hkPi (g := g) hg (argsL := argsL) (rest := rest) (hlen _ hsigM) hstack hdg
  rcases hK m meth c ⟨T.setVm vm₁, locs, cells, slots⟩ { g with stack := rest } (.invokevirtual index) mk (Value.ref b :: argsL).toArray X₁ hg hsize hdg hW (X₁.named hnamed) (hpre vm₁ X₁.warmed) with ⟨v, B, X', hpost, hsteps⟩ | ⟨q, B, X', hpost, hsteps⟩
  · exact Or.inl ⟨v, vm₁, B, X₁.warmed, X', hpost, fun target h => hstep₁ _ fun acts => by rw [doInvoke_state]; exact hsteps.trans h⟩
  · exact Or.inr ⟨q, vm₁, B, X₁.warmed, X', hpost, hstep₁ _ fun acts => by rw [doInvoke_state]; exact hsteps⟩
theorem vx_callS (X : Stand p l e R s m args below meth c T locs cells slots) (hexec : p.tables.exec = Jvm.exec) {own : String} {index : Nat} {y : MethodName} {bytes : ByteArray} {maxL : Nat} {ret : Option FieldType}
    (hown : s.vm.findClass own = some m.cls) (hlink : (Cond.methodLink own index y).before args s = true) (hstat : (Cond.static y).before args s = true) (hinit : (Cond.initialized y.cls).before args s = true)
    (hcode : (Cond.code y bytes maxL ret).before args s = true) (hy : y.cls ≠ "java/lang/invoke/MethodHandle" ∧ y.cls ≠ "java/lang/invoke/VarHandle")
    {W9 : Nat} {Pre : Pt → Array Value → Prop} {Post : Pt → Array Value → Option Value → Pt → Prop} {PostX : Pt → Array Value → Addr → Pt → Prop} (hK : vx_Back l R p e below s args y 3 W9 Pre Post PostX)
    {g : JFrame} (hg : g.method = m) (hsize : g.locals.size = c.maxLocals) {argsL rest : List Value} (hlen : ∀ sig, parseMethodDescriptor y.desc = some sig → argsL.length = sig.parameters.length)
    (hstack : g.stack = argsL.reverse ++ rest) (hW : 2 * g.monitorRoom + (rest.map fun v => v.category).sum ≤ W9) (hdg : decode c.code g.pc = .ok (.invokestatic index, 3))
    (hpre : ∀ vm₁, s.WarmedH vm₁ → Pre ⟨T.setVm vm₁, locs, cells, slots⟩ argsL.toArray) :
    (∃ (v : Option Value) (vm₁ : Vm) (B : Pt), s.WarmedH vm₁ ∧ Stand p l e R s m args below meth c B.U B.locs B.cells B.slots ∧ Post ⟨T.setVm vm₁, locs, cells, slots⟩ argsL.toArray v B ∧
      ∀ target, Steps p.tables e below (B.U.setTop { g with pc := g.pc + 3, stack := v.toList ++ rest }) target → Steps p.tables e below (T.setTop g) target) ∨
    (∃ (q : Addr) (vm₁ : Vm) (B : Pt), s.WarmedH vm₁ ∧ Stand p l e R s m args below meth c B.U B.locs B.cells B.slots ∧ PostX ⟨T.setVm vm₁, locs, cells, slots⟩ argsL.toArray q B ∧
      Steps p.tables e below (T.setTop g) ((B.U.setTop { g with stack := rest }).pushFrame (.throwing q))) := by
  obtain ⟨mk, hnamed⟩ := Cond.code_named hcode
  obtain ⟨methM, cM, hmethM, -, -, -, -, -, -, hsigM⟩ := Cond.code_spec hnamed hcode
  have hstatic : methM.isStatic = true := Cond.static_spec hnamed hmethM hstat
  obtain ⟨kP, hkP, -⟩ := className_of_methodNamed hnamed
  have hinitP : kP.init = .initialized := Cond.initialized_spec (findClass_of_methodNamed hnamed) hkP hinit
  obtain ⟨vm₁, X₁, hstep₁⟩ := X.invokestatic hexec hown hlink hnamed hmethM hstatic hkP hinitP hy (g := g) hg (argsL := argsL) (rest := rest) (hlen _ hsigM) hstack hdg
  rcases hK m meth c ⟨T.setVm vm₁, locs, cells, slots⟩ { g with stack := rest } (.invokestatic index) mk argsL.toArray X₁ hg hsize hdg hW (X₁.named hnamed) (hpre vm₁ X₁.warmed) with ⟨v, B, X', hpost, hsteps⟩ | ⟨q, B, X', hpost, hsteps⟩
  · exact Or.inl ⟨v, vm₁, B, X₁.warmed, X', hpost, fun target h => hstep₁ _ fun acts => by rw [doInvoke_state]; exact hsteps.trans h⟩
  · exact Or.inr ⟨q, vm₁, B, X₁.warmed, X', hpost, hstep₁ _ fun acts => by rw [doInvoke_state]; exact hsteps⟩
end Calls
theorem vx_cls {s : State} {T : State} {vm₁ : Vm} {E : String} {k : ClassId} (hW : s.WarmedH vm₁) (h : (T.setVm vm₁).vm.findClass E = some k) : s.vm.findClass E = some k := by
  have h1 : vm₁.findClass E = some k := h
  rw [hW.alike.findClass] at h1
  exact h1
/-- the method's frame g, with q thrown over it -/
def vx_W (p : Program) (l : Launch) (e : Env) (R : Room) (s : State) (m : MethodId) (args : Array Value) (below : List Frame) (meth : Method) (c : Code) (H : Heap) (locs : List Loc) (cells slots : Nat) (Q : State → Prop) (g : JFrame) (q : Addr) : Prop :=
  ∀ T : State, T.heap = H → Stand p l e R s m args below meth c T locs cells slots → ∃ t, Steps p.tables e below ((T.setTop g).pushFrame (.throwing q)) t ∧ Q t
def vx_Run (p : Program) (l : Launch) (e : Env) (R : Room) (s : State) (m : MethodId) (args : Array Value) (below : List Frame) (meth : Method) (c : Code) (H : Heap) (locs : List Loc) (cells slots mc ms : Nat) (g : JFrame) (rest : List Value) (Qa : State → Outcome → State → Prop) (XC : String → State → State → Prop) (free : Addr → Prop) : Prop :=
  ∀ T : State, T.heap = H → Stand p l e R s m args below meth c T locs cells slots →
    (∃ (v : Option Value) (st₀ t T' : State) (L : List Loc), st₀.heap = H ∧ Stand p l e R s m args below meth c T' (locs ++ L) (cells + mc) (slots + ms) ∧ (∀ q ∈ L, free q.base) ∧ T'.heap = t.heap ∧ T'.vm = t.vm ∧ Qa st₀ (.returned v) t ∧
      Goes p e below T g T' { g with pc := g.pc + 3, stack := v.toList ++ rest }) ∨
    (∃ (q : Addr) (st₀ t T' : State) (L : List Loc) (E : String) (ce : Cell), st₀.heap = H ∧ Stand p l e R s m args below meth c T' (locs ++ L) (cells + mc) (slots + ms) ∧ (∀ z ∈ L, free z.base) ∧ T'.heap = t.heap ∧ T'.vm = t.vm ∧ XC E st₀ t ∧ t.heap[q]? = some ce ∧ ce.vm = .none ∧ s.vm.findClass E = some ce.cls ∧
      Steps p.tables e below (T.setTop g) ((T'.setTop { g with stack := rest }).pushFrame (.throwing q)))
def vx_X {S : Type} (px : S → Prop) (B : String → S → State → Prop) (A : Nat → Prop) : String → State → State → Prop := fun E st t => ∃ u : S, px u ∧ B E u t ∧ va_F A st t
section Runs
variable {p : Program} {l : Launch} {e : Env} {R : Room} {s : State} {m : MethodId} {args : Array Value} {below : List Frame} {meth : Method} {c : Code} {H : Heap} {locs : List Loc} {cells slots : Nat}
variable {y : MethodName} {bytes cc : ByteArray} {maxL nL mc ms n index : Nat} {ret : Option FieldType} {ws : List Cond} {rm : Room} {Pc : Array Value → State → Prop} {Qc : Array Value → State → Outcome → State → Prop} {XC : String → State → State → Prop} {free : Addr → Prop} {Ts : List Cond} {own C : String} {b : Addr} {As rest : List Value} {g : JFrame}
theorem vx_callBack (cb : CallB R s args own index y bytes maxL ret ws rm mc ms n) (hM : vx_Met l y ws rm Pc Qc XC mc ms free) (hbl : FrameBlind Pc) : vx_Back l R p e below s args y 3 8 (PreOf R mc ms Pc) (PostOf Qc mc ms free) (vx_Post XC mc ms free) := by
  obtain ⟨hrc, hrs, hfr, hlo, hws, hcw, -, hini, -⟩ := cb
  exact vx_back (bytes := bytes) (maxL := maxL) (ret := ret) hM hbl hrc hrs hfr hlo hws hcw (fun a' U hW => word_at hW (Or.inl (by first | rfl | simp [Cond.onTables, Cond.keeps, Cond.steady])) hini)
theorem vx_runV (S : CallFix p m c cc nL s args Ts own) (hM : vx_Met l y ws rm Pc Qc XC mc ms free) (cw : CallW R s args own C index y bytes maxL ret ws rm mc ms n) (hp : PreV s H C b Pc As)
    (hg : g.method = m) (hn : As.length = n) (hsize : g.locals.size = nL) (hstack : g.stack = As.reverse ++ .ref b :: rest) (hW : 2 * g.monitorRoom + (rest.map fun v => v.category).sum ≤ 8) (hdg : decode cc g.pc = .ok (.invokevirtual index, 3)) (hf : cells + mc ≤ R.cells ∧ slots + ms ≤ R.slots) :
    vx_Run p l e R s m args below meth c H locs cells slots mc ms g rest (Qc (Value.ref b :: As).toArray) XC free := by
  have hK : vx_Back l R p e below s args y 3 8 (PreOf R mc ms Pc) (PostOf Qc mc ms free) (vx_Post XC mc ms free) := vx_callBack cw.1 hM hp.1
  obtain ⟨⟨-, -, -, -, -, -, hcode, -, hy, hlen, hl⟩, hin, hse⟩ := cw
  obtain ⟨hx, hb, hml, ho, -⟩ := S
  obtain ⟨-, ⟨cellB, hcB, hoB, hclB⟩, hPc⟩ := hp
  intro T hT X
  rcases vx_callV X hx (C := C) (bytes := bytes) (maxL := maxL) (ret := ret) ho hl hin hse hcode hy hK (by rw [hT]; exact hcB) hoB hclB hg (hsize.trans hml.symm) (argsL := As) (rest := rest) (fun sig h => hn.trans (hlen sig h)) hstack hW (by rw [hb]; exact hdg)
    (fun vm₁ hW₁ => ⟨hf.1, hf.2, hPc (T.setVm vm₁) hT hW₁⟩) with ⟨v, vm₁, ⟨U', l2, c2, s2⟩, hW₁, X', ⟨g', mk, t, L, e1, e2, hq, h1, hL, h2, h3⟩, st⟩ | ⟨q, vm₁, ⟨U', l2, c2, s2⟩, hW₁, X', ⟨g', mk, t, L, E, ce, e1, e2, hq, hce, hcv, hcl, h1, hL, h2, h3⟩, st⟩
  · dsimp only [Pt.U, Pt.locs, Pt.cells, Pt.slots] at X' e1 e2 h1 h2 h3 st
    subst h1; subst h2; subst h3
    exact Or.inl ⟨v, (T.setVm vm₁).calling g' mk (Value.ref b :: As).toArray, t, U', L, hT, X', hL, e1, e2, hq, st⟩
  · dsimp only [Pt.U, Pt.locs, Pt.cells, Pt.slots] at X' e1 e2 h1 h2 h3 st hcl
    subst h1; subst h2; subst h3
    exact Or.inr ⟨q, (T.setVm vm₁).calling g' mk (Value.ref b :: As).toArray, t, U', L, E, ce, hT, X', hL, e1, e2, hq, hce, hcv, vx_cls hW₁ hcl, st⟩
theorem vx_runS (S : CallFix p m c cc nL s args Ts own) (hM : vx_Met l y ws rm Pc Qc XC mc ms free) (cw : CallB R s args own index y bytes maxL ret ws rm mc ms n ∧ (Cond.static y).before args s = true) (hp : PreS s H Pc As)
    (hg : g.method = m) (hn : As.length = n) (hsize : g.locals.size = nL) (hstack : g.stack = As.reverse ++ rest) (hW : 2 * g.monitorRoom + (rest.map fun v => v.category).sum ≤ 8) (hdg : decode cc g.pc = .ok (.invokestatic index, 3)) (hf : cells + mc ≤ R.cells ∧ slots + ms ≤ R.slots) :
    vx_Run p l e R s m args below meth c H locs cells slots mc ms g rest (Qc As.toArray) XC free := by
  have hK : vx_Back l R p e below s args y 3 8 (PreOf R mc ms Pc) (PostOf Qc mc ms free) (vx_Post XC mc ms free) := vx_callBack cw.1 hM hp.1
  obtain ⟨⟨-, -, -, -, -, -, hcode, hini, hy, hlen, hl⟩, hstt⟩ := cw
  obtain ⟨hx, hb, hml, ho, -⟩ := S
  intro T hT X
  rcases vx_callS X hx (bytes := bytes) (maxL := maxL) (ret := ret) ho hl hstt hini hcode hy hK hg (hsize.trans hml.symm) (argsL := As) (rest := rest) (fun sig h => hn.trans (hlen sig h)) hstack hW (by rw [hb]; exact hdg)
    (fun vm₁ hW₁ => ⟨hf.1, hf.2, hp.2 (T.setVm vm₁) hT hW₁⟩) with ⟨v, vm₁, ⟨U', l2, c2, s2⟩, hW₁, X', ⟨g', mk, t, L, e1, e2, hq, h1, hL, h2, h3⟩, st⟩ | ⟨q, vm₁, ⟨U', l2, c2, s2⟩, hW₁, X', ⟨g', mk, t, L, E, ce, e1, e2, hq, hce, hcv, hcl, h1, hL, h2, h3⟩, st⟩
  · dsimp only [Pt.U, Pt.locs, Pt.cells, Pt.slots] at X' e1 e2 h1 h2 h3 st
    subst h1; subst h2; subst h3
    exact Or.inl ⟨v, (T.setVm vm₁).calling g' mk As.toArray, t, U', L, hT, X', hL, e1, e2, hq, st⟩
  · dsimp only [Pt.U, Pt.locs, Pt.cells, Pt.slots] at X' e1 e2 h1 h2 h3 st hcl
    subst h1; subst h2; subst h3
    exact Or.inr ⟨q, (T.setVm vm₁).calling g' mk As.toArray, t, U', L, E, ce, hT, X', hL, e1, e2, hq, hce, hcv, vx_cls hW₁ hcl, st⟩
end Runs
section Rows
variable {p : Program} {l : Launch} {e : Env} {R : Room} {s : State} {m : MethodId} {args : Array Value} {below : List Frame} {meth : Method} {c : Code} {H : Heap} {locs : List Loc} {cells slots : Nat} {Q : State → Prop}
variable {mc ms : Nat} {free : Addr → Prop} {A0 A1 : Nat → Prop} {H0 : Heap} {a : Array Value} {pc : Nat} {ls : Array Slot} {st0 rest : List Value}
theorem vx_keep {st₀ t T' : State} {L : List Loc} (h0 : st₀.heap = H) (e1 : T'.heap = t.heap) (hS : va_S A0 H0 H locs) (hA : ∀ q, q < H.size → A1 q → A0 q) (hf : ∀ q, free q → A0 q) (hL : ∀ q ∈ L, free q.base) (hF : va_F A1 st₀ t) :
    H.size ≤ T'.heap.size ∧ (∀ q : Nat, q < H.size → ¬ A1 q → T'.heap[q]? = H[q]?) ∧ va_S A0 H0 T'.heap (locs ++ L) := by
  obtain ⟨hz, hk⟩ := hF
  rw [h0] at hz hk
  exact ⟨by rw [e1]; exact hz, fun q h1 h2 => by rw [e1]; exact hk q h1 h2,
    ⟨Nat.le_trans hS.1 (by rw [e1]; exact hz), fun q h1 h2 => by rw [e1, hk q (Nat.lt_of_lt_of_le h1 hS.1) (fun z => h2 (hA q (Nat.lt_of_lt_of_le h1 hS.1) z))]; exact hS.2.1 q h1 h2, fun q hq => by
      rcases List.mem_append.mp hq with h | h
      · exact hS.2.2 q h
      · exact hf _ (hL q h)⟩⟩
theorem vx_calli {S SX : Type} {post : Int32 → S → Prop} {px : SX → Prop} {B : S → State → Prop} {BX : String → SX → State → Prop} {AX : Nat → Prop} (hr : vx_Run p l e R s m args below meth c H locs cells slots mc ms (F0 m pc ls st0) rest (va_Qi post B A1 a) (vx_X px BX AX) free) (hS : va_S A0 H0 H locs) (hA : ∀ q, q < H.size → A1 q → A0 q) (hf : ∀ q, free q → A0 q) (hAX : ∀ q, q < H.size → AX q → A0 q)
    (kx : ∀ (E : String) (ce : Cell) (q9 : Addr) (u : SX) (t : State) (H1 : Heap) (locs1 : List Loc), t.heap = H1 → s.vm.Alike t.vm → px u → BX E u t → H.size ≤ H1.size → (∀ q : Nat, q < H.size → ¬ AX q → H1[q]? = H[q]?) → va_S A0 H0 H1 locs1 → H1[q9]? = some ce → ce.vm = .none → s.vm.findClass E = some ce.cls → vx_W p l e R s m args below meth c H1 locs1 (cells + mc) (slots + ms) Q (F0 m pc ls rest) q9)
    (kk : ∀ (r : Int32) (u : S) (t : State) (H1 : Heap) (locs1 : List Loc), t.heap = H1 → s.vm.Alike t.vm → post r u → B u t → H.size ≤ H1.size → (∀ q : Nat, q < H.size → ¬ A1 q → H1[q]? = H[q]?) → va_S A0 H0 H1 locs1 → W p l e R s m args below meth c H1 locs1 (cells + mc) (slots + ms) Q (F0 m (pc + 3) ls (.int r :: rest))) : W p l e R s m args below meth c H locs cells slots Q (F0 m pc ls st0) := by
  intro T hT X
  rcases hr T hT X with ⟨v, st₀, t, T', L, h0, X', hL, e1, e2, ⟨⟨r, u, hv, hp, hb⟩, hF⟩, st⟩ | ⟨q, st₀, t, T', L, E, ce, h0, X', hL, e1, e2, ⟨u, hp, hb, hF⟩, hce, hcv, hcl, st⟩
  · cases hv
    obtain ⟨k1, k2, k3⟩ := vx_keep h0 e1 hS hA hf hL hF
    obtain ⟨t2, a1, b1⟩ := kk r u t T'.heap (locs ++ L) e1.symm (by rw [← e2]; exact X'.warmed.alike) hp hb k1 k2 k3 T' rfl X'
    exact ⟨t2, st t2 a1, b1⟩
  · obtain ⟨k1, k2, k3⟩ := vx_keep h0 e1 hS hAX hf hL hF
    obtain ⟨t2, a1, b1⟩ := kx E ce q u t T'.heap (locs ++ L) e1.symm (by rw [← e2]; exact X'.warmed.alike) hp hb k1 k2 k3 (by rw [e1]; exact hce) hcv hcl T' rfl X'
    exact ⟨t2, st.trans a1, b1⟩
theorem vx_calll {S SX : Type} {post : Int64 → S → Prop} {px : SX → Prop} {B : S → State → Prop} {BX : String → SX → State → Prop} {AX : Nat → Prop} (hr : vx_Run p l e R s m args below meth c H locs cells slots mc ms (F0 m pc ls st0) rest (va_Ql post B A1 a) (vx_X px BX AX) free) (hS : va_S A0 H0 H locs) (hA : ∀ q, q < H.size → A1 q → A0 q) (hf : ∀ q, free q → A0 q) (hAX : ∀ q, q < H.size → AX q → A0 q)
    (kx : ∀ (E : String) (ce : Cell) (q9 : Addr) (u : SX) (t : State) (H1 : Heap) (locs1 : List Loc), t.heap = H1 → s.vm.Alike t.vm → px u → BX E u t → H.size ≤ H1.size → (∀ q : Nat, q < H.size → ¬ AX q → H1[q]? = H[q]?) → va_S A0 H0 H1 locs1 → H1[q9]? = some ce → ce.vm = .none → s.vm.findClass E = some ce.cls → vx_W p l e R s m args below meth c H1 locs1 (cells + mc) (slots + ms) Q (F0 m pc ls rest) q9)
    (kk : ∀ (r : Int64) (u : S) (t : State) (H1 : Heap) (locs1 : List Loc), t.heap = H1 → s.vm.Alike t.vm → post r u → B u t → H.size ≤ H1.size → (∀ q : Nat, q < H.size → ¬ A1 q → H1[q]? = H[q]?) → va_S A0 H0 H1 locs1 → W p l e R s m args below meth c H1 locs1 (cells + mc) (slots + ms) Q (F0 m (pc + 3) ls (.long r :: rest))) : W p l e R s m args below meth c H locs cells slots Q (F0 m pc ls st0) := by
  intro T hT X
  rcases hr T hT X with ⟨v, st₀, t, T', L, h0, X', hL, e1, e2, ⟨⟨r, u, hv, hp, hb⟩, hF⟩, st⟩ | ⟨q, st₀, t, T', L, E, ce, h0, X', hL, e1, e2, ⟨u, hp, hb, hF⟩, hce, hcv, hcl, st⟩
  · cases hv
    obtain ⟨k1, k2, k3⟩ := vx_keep h0 e1 hS hA hf hL hF
    obtain ⟨t2, a1, b1⟩ := kk r u t T'.heap (locs ++ L) e1.symm (by rw [← e2]; exact X'.warmed.alike) hp hb k1 k2 k3 T' rfl X'
    exact ⟨t2, st t2 a1, b1⟩
  · obtain ⟨k1, k2, k3⟩ := vx_keep h0 e1 hS hAX hf hL hF
    obtain ⟨t2, a1, b1⟩ := kx E ce q u t T'.heap (locs ++ L) e1.symm (by rw [← e2]; exact X'.warmed.alike) hp hb k1 k2 k3 (by rw [e1]; exact hce) hcv hcl T' rfl X'
    exact ⟨t2, st.trans a1, b1⟩
theorem vx_callf {S SX : Type} {post : UInt32 → S → Prop} {px : SX → Prop} {B : S → State → Prop} {BX : String → SX → State → Prop} {AX : Nat → Prop} (hr : vx_Run p l e R s m args below meth c H locs cells slots mc ms (F0 m pc ls st0) rest (va_Qf post B A1 a) (vx_X px BX AX) free) (hS : va_S A0 H0 H locs) (hA : ∀ q, q < H.size → A1 q → A0 q) (hf : ∀ q, free q → A0 q) (hAX : ∀ q, q < H.size → AX q → A0 q)
    (kx : ∀ (E : String) (ce : Cell) (q9 : Addr) (u : SX) (t : State) (H1 : Heap) (locs1 : List Loc), t.heap = H1 → s.vm.Alike t.vm → px u → BX E u t → H.size ≤ H1.size → (∀ q : Nat, q < H.size → ¬ AX q → H1[q]? = H[q]?) → va_S A0 H0 H1 locs1 → H1[q9]? = some ce → ce.vm = .none → s.vm.findClass E = some ce.cls → vx_W p l e R s m args below meth c H1 locs1 (cells + mc) (slots + ms) Q (F0 m pc ls rest) q9)
    (kk : ∀ (r : UInt32) (u : S) (t : State) (H1 : Heap) (locs1 : List Loc), t.heap = H1 → s.vm.Alike t.vm → post r u → B u t → H.size ≤ H1.size → (∀ q : Nat, q < H.size → ¬ A1 q → H1[q]? = H[q]?) → va_S A0 H0 H1 locs1 → W p l e R s m args below meth c H1 locs1 (cells + mc) (slots + ms) Q (F0 m (pc + 3) ls (.float r :: rest))) : W p l e R s m args below meth c H locs cells slots Q (F0 m pc ls st0) := by
  intro T hT X
  rcases hr T hT X with ⟨v, st₀, t, T', L, h0, X', hL, e1, e2, ⟨⟨r, u, hv, hp, hb⟩, hF⟩, st⟩ | ⟨q, st₀, t, T', L, E, ce, h0, X', hL, e1, e2, ⟨u, hp, hb, hF⟩, hce, hcv, hcl, st⟩
  · cases hv
    obtain ⟨k1, k2, k3⟩ := vx_keep h0 e1 hS hA hf hL hF
    obtain ⟨t2, a1, b1⟩ := kk r u t T'.heap (locs ++ L) e1.symm (by rw [← e2]; exact X'.warmed.alike) hp hb k1 k2 k3 T' rfl X'
    exact ⟨t2, st t2 a1, b1⟩
  · obtain ⟨k1, k2, k3⟩ := vx_keep h0 e1 hS hAX hf hL hF
    obtain ⟨t2, a1, b1⟩ := kx E ce q u t T'.heap (locs ++ L) e1.symm (by rw [← e2]; exact X'.warmed.alike) hp hb k1 k2 k3 (by rw [e1]; exact hce) hcv hcl T' rfl X'
    exact ⟨t2, st.trans a1, b1⟩
theorem vx_calld {S SX : Type} {post : UInt64 → S → Prop} {px : SX → Prop} {B : S → State → Prop} {BX : String → SX → State → Prop} {AX : Nat → Prop} (hr : vx_Run p l e R s m args below meth c H locs cells slots mc ms (F0 m pc ls st0) rest (va_Qd post B A1 a) (vx_X px BX AX) free) (hS : va_S A0 H0 H locs) (hA : ∀ q, q < H.size → A1 q → A0 q) (hf : ∀ q, free q → A0 q) (hAX : ∀ q, q < H.size → AX q → A0 q)
    (kx : ∀ (E : String) (ce : Cell) (q9 : Addr) (u : SX) (t : State) (H1 : Heap) (locs1 : List Loc), t.heap = H1 → s.vm.Alike t.vm → px u → BX E u t → H.size ≤ H1.size → (∀ q : Nat, q < H.size → ¬ AX q → H1[q]? = H[q]?) → va_S A0 H0 H1 locs1 → H1[q9]? = some ce → ce.vm = .none → s.vm.findClass E = some ce.cls → vx_W p l e R s m args below meth c H1 locs1 (cells + mc) (slots + ms) Q (F0 m pc ls rest) q9)
    (kk : ∀ (r : UInt64) (u : S) (t : State) (H1 : Heap) (locs1 : List Loc), t.heap = H1 → s.vm.Alike t.vm → post r u → B u t → H.size ≤ H1.size → (∀ q : Nat, q < H.size → ¬ A1 q → H1[q]? = H[q]?) → va_S A0 H0 H1 locs1 → W p l e R s m args below meth c H1 locs1 (cells + mc) (slots + ms) Q (F0 m (pc + 3) ls (.double r :: rest))) : W p l e R s m args below meth c H locs cells slots Q (F0 m pc ls st0) := by
  intro T hT X
  rcases hr T hT X with ⟨v, st₀, t, T', L, h0, X', hL, e1, e2, ⟨⟨r, u, hv, hp, hb⟩, hF⟩, st⟩ | ⟨q, st₀, t, T', L, E, ce, h0, X', hL, e1, e2, ⟨u, hp, hb, hF⟩, hce, hcv, hcl, st⟩
  · cases hv
    obtain ⟨k1, k2, k3⟩ := vx_keep h0 e1 hS hA hf hL hF
    obtain ⟨t2, a1, b1⟩ := kk r u t T'.heap (locs ++ L) e1.symm (by rw [← e2]; exact X'.warmed.alike) hp hb k1 k2 k3 T' rfl X'
    exact ⟨t2, st t2 a1, b1⟩
  · obtain ⟨k1, k2, k3⟩ := vx_keep h0 e1 hS hAX hf hL hF
    obtain ⟨t2, a1, b1⟩ := kx E ce q u t T'.heap (locs ++ L) e1.symm (by rw [← e2]; exact X'.warmed.alike) hp hb k1 k2 k3 (by rw [e1]; exact hce) hcv hcl T' rfl X'
    exact ⟨t2, st.trans a1, b1⟩
theorem vx_callv {S SX : Type} {post : S → Prop} {px : SX → Prop} {B : S → State → Prop} {BX : String → SX → State → Prop} {AX : Nat → Prop} (hr : vx_Run p l e R s m args below meth c H locs cells slots mc ms (F0 m pc ls st0) rest (va_Qv post B A1 a) (vx_X px BX AX) free) (hS : va_S A0 H0 H locs) (hA : ∀ q, q < H.size → A1 q → A0 q) (hf : ∀ q, free q → A0 q) (hAX : ∀ q, q < H.size → AX q → A0 q)
    (kx : ∀ (E : String) (ce : Cell) (q9 : Addr) (u : SX) (t : State) (H1 : Heap) (locs1 : List Loc), t.heap = H1 → s.vm.Alike t.vm → px u → BX E u t → H.size ≤ H1.size → (∀ q : Nat, q < H.size → ¬ AX q → H1[q]? = H[q]?) → va_S A0 H0 H1 locs1 → H1[q9]? = some ce → ce.vm = .none → s.vm.findClass E = some ce.cls → vx_W p l e R s m args below meth c H1 locs1 (cells + mc) (slots + ms) Q (F0 m pc ls rest) q9)
    (kk : ∀ (u : S) (t : State) (H1 : Heap) (locs1 : List Loc), t.heap = H1 → s.vm.Alike t.vm → post u → B u t → H.size ≤ H1.size → (∀ q : Nat, q < H.size → ¬ A1 q → H1[q]? = H[q]?) → va_S A0 H0 H1 locs1 → W p l e R s m args below meth c H1 locs1 (cells + mc) (slots + ms) Q (F0 m (pc + 3) ls (rest))) : W p l e R s m args below meth c H locs cells slots Q (F0 m pc ls st0) := by
  intro T hT X
  rcases hr T hT X with ⟨v, st₀, t, T', L, h0, X', hL, e1, e2, ⟨⟨u, hv, hp, hb⟩, hF⟩, st⟩ | ⟨q, st₀, t, T', L, E, ce, h0, X', hL, e1, e2, ⟨u, hp, hb, hF⟩, hce, hcv, hcl, st⟩
  · cases hv
    obtain ⟨k1, k2, k3⟩ := vx_keep h0 e1 hS hA hf hL hF
    obtain ⟨t2, a1, b1⟩ := kk u t T'.heap (locs ++ L) e1.symm (by rw [← e2]; exact X'.warmed.alike) hp hb k1 k2 k3 T' rfl X'
    exact ⟨t2, st t2 a1, b1⟩
  · obtain ⟨k1, k2, k3⟩ := vx_keep h0 e1 hS hAX hf hL hF
    obtain ⟨t2, a1, b1⟩ := kx E ce q u t T'.heap (locs ++ L) e1.symm (by rw [← e2]; exact X'.warmed.alike) hp hb k1 k2 k3 (by rw [e1]; exact hce) hcv hcl T' rfl X'
    exact ⟨t2, st.trans a1, b1⟩
/-- caught by the row x of this method's table; the rows ahead don't take it -/
theorem vx_catch {own name : String} {E : String} {ce : Cell} {q : Addr} (hown : s.vm.findClass own = some m.cls) (pre : List ExceptionTableEntry) (x : ExceptionTableEntry) (suf : List ExceptionTableEntry) (hsplit : c.exceptionTable.toList = pre ++ x :: suf)
    (hpass : ∀ z ∈ pre, covers z pc = false ∨ (z.catchType ≠ 0 ∧ ∃ nm : String, (Cond.classLink own z.catchType nm).before args s = true ∧ va_Nc E nm s)) (hx : covers x pc = true) (h0 : x.catchType ≠ 0)
    (hlink : (Cond.classLink own x.catchType name).before args s = true) (hcast : (Cond.castable E name).before args s = true) (hcell : H[q]? = some ce) (hv : ce.vm = .none) (hcl : s.vm.findClass E = some ce.cls)
    (kk : W p l e R s m args below meth c H locs cells slots Q (F0 m x.handlerPc ls [.ref q])) : vx_W p l e R s m args below meth c H locs cells slots Q (F0 m pc ls rest) q := by
  intro T hT X
  have hpl : e.platform.magicAccessors = ({} : Platform).magicAccessors := by rw [X.admits.platform]
  obtain ⟨c3, c4, hc3, hc4, hasg⟩ := Cond.castable_spec hcast
  cases Option.some.inj (hc3.symm.trans hcl)
  obtain ⟨c5, hc5, hcl5⟩ := Cond.classLink_spec hown hlink e.platform hpl
  cases Option.some.inj (hc4.symm.trans hc5)
  obtain ⟨vm', X', st⟩ := X.thenCaughtThrough q (g := F0 m pc ls rest) rfl (Steps.refl _) (by rw [hT]; exact hcell) (by rw [hv]; rfl) (by obtain ⟨k9, h9, -⟩ := Vm.findClass_spec hcl; exact ⟨k9, h9⟩) pre x suf hsplit
    (fun z hz => by
      rcases hpass z hz with h | ⟨hz0, nm, hl1, hn1⟩
      · exact Or.inl h
      · obtain ⟨c6, hc6, hcl6⟩ := Cond.classLink_spec hown hl1 e.platform hpl
        obtain ⟨a8, b8, h1, h2, h3⟩ := hn1
        cases Option.some.inj (h1.symm.trans hcl)
        cases Option.some.inj (h2.symm.trans hc6)
        exact Or.inr ⟨hz0, _, hcl6, h3⟩) hx (Or.inr ⟨h0, c4, hcl5, hasg⟩)
  obtain ⟨t, a1, b1⟩ := kk (T.setVm vm') hT X'
  exact ⟨t, st.trans a1, b1⟩
end Rows
section Ends
variable {p : Program} {l : Launch} {e : Env} {R : Room} {s : State} {m : MethodId} {args : Array Value} {below : List Frame} {meth : Method} {c : Code} {H : Heap} {locs : List Loc} {cells slots : Nat} {Q : State → Prop}
variable {mc ms : Nat} {free : Addr → Prop} {A0 A1 : Nat → Prop} {H0 : Heap} {a : Array Value} {ls : Array Slot} {st0 rest : List Value}
variable {Qc : Array Value → State → Outcome → State → Prop} {XC : String → State → State → Prop}
/-- what a body that may throw owes at its end -/
def vx_MQ (below : List Frame) (Qc : Array Value → State → Outcome → State → Prop) (XC : String → State → State → Prop) (a : Array Value) (s : State) (mc ms : Nat) (free : Addr → Prop) : State → Prop := fun t =>
  ∃ o, t.status = .running ∧ Ended t below o ∧ vx_Q Qc XC mc ms free a s o t
theorem vx_ret {g : JFrame} {mc ms : Nat} (k : W p l e R s m args below meth c H locs cells slots (MQ below Qc args s mc ms free) g) : W p l e R s m args below meth c H locs cells slots (vx_MQ below Qc XC args s mc ms free) g := by
  intro T hT X
  obtain ⟨t, a1, o, b1, b2, b3, b4⟩ := k T hT X
  exact ⟨t, a1, o, b1, b2, Or.inl ⟨b3, b4⟩⟩
/-- not caught here: it goes on to the caller -/
theorem vx_widen {g : JFrame} {q : Addr} {k n : Nat} (h1 : cells ≤ k) (h2 : slots ≤ n) (kk : vx_W p l e R s m args below meth c H locs k n Q g q) : vx_W p l e R s m args below meth c H locs cells slots Q g q := fun T hT X => kk T hT (stand_widen X h1 h2)
theorem vx_out {pc : Nat} {E : String} {ce : Cell} {q : Addr} {mc ms : Nat} (hout : ∀ x ∈ c.exceptionTable.toList, covers x pc = false) (hlocks : meth.locks = false) (hcell : H[q]? = some ce) (hv : ce.vm = .none) (hcl : s.vm.findClass E = some ce.cls)
    (hx : ∀ t : State, t.heap = H → s.vm.Alike t.vm → XC E s t) (hf : ∀ z ∈ locs, free z.base) (hc : cells ≤ mc) (hs : slots ≤ ms) :
    vx_W p l e R s m args below meth c H locs cells slots (vx_MQ below Qc XC args s mc ms free) (F0 m pc ls rest) q := by
  intro T hT X
  obtain ⟨st1, hrun, hend, hW, hsm⟩ := X.leaveThrown q (g := F0 m pc ls rest) rfl rfl rfl hout hlocks
  have hcell9 : (T.setFrames (.throwing q :: below)).heap[q]? = some ce := by
    show T.heap[q]? = some ce
    rw [hT]; exact hcell
  exact ⟨_, st1, .threw q, hrun, hend, Or.inr ⟨q, rfl, E, ce, locs, hx _ hT hW.alike, hcell9, hv, hcl, hW, hsm.mono hc hs, hf⟩⟩
theorem vx_frame {U : State} {k n : Nat} (h : s.sameButNew ({ U with vm := s.vm } : State) locs k n) : s.heap.size ≤ U.heap.size ∧ ∀ q : Nat, q < s.heap.size → (∀ z ∈ locs, z.base ≠ q) → U.heap[q]? = s.heap[q]? := by
  obtain ⟨-, h2, -, -, -, h6⟩ := h
  refine ⟨h2, fun q hq hz => ?_⟩
  obtain ⟨c9, e1, e2, e3, e4⟩ := h6 q _ (Array.getElem?_eq_getElem hq)
  have hs : c9.slots = (s.heap[q]).slots := Array.ext_getElem? fun i => e4 i fun hm => hz _ hm rfl
  have h9 : c9 = s.heap[q] := by
    rw [hs] at e2
    exact e2
  have e5 : U.heap[q]? = some c9 := e1
  rw [e5, h9, Array.getElem?_eq_getElem hq]
/-- the words of a throw but the four that speak of the heap -/
def vx_no (w : Cond) : Bool := decide (w ≠ .isRef (.static Bundle.tN "UNASSIGNED_STACK" Bundle.steD)) && decide (w ≠ .isRef (.static Bundle.tN "SUPPRESSED_SENTINEL" Bundle.listD)) && decide (w ≠ .laysStatic Bundle.tN "UNASSIGNED_STACK" Bundle.steD) && decide (w ≠ .laysStatic Bundle.tN "SUPPRESSED_SENTINEL" Bundle.listD)
def vx_at0 (own : String) (ic : Nat) (X : String) (names : List String) : List Cond := (Bundle.ownAtoms0 own ic X names).filter vx_no
def vx_atS (own : String) (ic : Nat) (X : String) (names : List String) : List Cond := (Bundle.ownAtoms own ic X names).filter vx_no
/-- a word that the tables alone decide, or a good one -/
def vx_ot (w : Cond) : Bool := w.onTables || goodWord w
theorem vx_ot_at {args a' : Array Value} {s U : State} {w : Cond} (hW : s.WarmedH U.vm) (hvm : s.vm = U.vm) (hg : vx_ot w = true) (h : w.before args s = true) : w.before a' U = true := by
  simp only [vx_ot, Bool.or_eq_true] at hg
  rcases hg with hg | hg
  · exact va_tabs hg hvm h
  · exact word_at hW (good_of_word hg) h
/-- a list's words: the good ones out of the method's own list, the others by premises of their own -/
theorem vx_hat {args : Array Value} {s : State} {L B : List Cond} (h1 : ∀ w ∈ L.filter goodWord, w.before args s = true) (h2 : ∀ w ∈ L.filter (fun w => !goodWord w), w ∈ B) (h3 : ∀ w ∈ B, w.before args s = true) : ∀ w ∈ L, w.before args s = true := by
  intro w hw
  by_cases g : goodWord w = true
  · exact h1 w (List.mem_filter.mpr ⟨hw, g⟩)
  · refine h3 w (h2 w (List.mem_filter.mpr ⟨hw, ?_⟩))
    show (!goodWord w) = true
    cases hgw : goodWord w
    · rfl
    · exact absurd hgw g
theorem vx_c {args : Array Value} {s : State} {w : Cond} {B : List Cond} (h : w.before args s = true) (t : ∀ w ∈ B, w.before args s = true) : ∀ w' ∈ w :: B, w'.before args s = true := fun w' h' => (List.mem_cons.mp h').elim (fun e => by rw [e]; exact h) (t w')
theorem vx_n {args : Array Value} {s : State} : ∀ w ∈ ([] : List Cond), w.before args s = true := fun _ h => nomatch h
theorem vx_own {args : Array Value} {s : State} {L : List Cond} (h1 : ∀ w ∈ L.filter vx_no, w.before args s = true)
    (hU : (Cond.isRef (.static Bundle.tN "UNASSIGNED_STACK" Bundle.steD)).before args s = true) (hN : (Cond.isRef (.static Bundle.tN "SUPPRESSED_SENTINEL" Bundle.listD)).before args s = true)
    (lU : (Cond.laysStatic Bundle.tN "UNASSIGNED_STACK" Bundle.steD).before args s = true) (lN : (Cond.laysStatic Bundle.tN "SUPPRESSED_SENTINEL" Bundle.listD).before args s = true) : ∀ w ∈ L, w.before args s = true := by
  intro w hw
  by_cases e1 : w = .isRef (.static Bundle.tN "UNASSIGNED_STACK" Bundle.steD)
  · rw [e1]; exact hU
  · by_cases e2 : w = .isRef (.static Bundle.tN "SUPPRESSED_SENTINEL" Bundle.listD)
    · rw [e2]; exact hN
    · by_cases e3 : w = .laysStatic Bundle.tN "UNASSIGNED_STACK" Bundle.steD
      · rw [e3]; exact lU
      · by_cases e4 : w = .laysStatic Bundle.tN "SUPPRESSED_SENTINEL" Bundle.listD
        · rw [e4]; exact lN
        · exact h1 w (List.mem_filter.mpr ⟨hw, by unfold vx_no; rw [decide_eq_true e1, decide_eq_true e2, decide_eq_true e3, decide_eq_true e4]; rfl⟩)
/-- where a static field lies, its class's statics cell in H -/
def vx_L (C n d : String) (A : Nat → Prop) (U : State) (H : Heap) : Prop := ∃ (c : ClassId) (k : Class) (i : Nat) (f : Field) (a : Nat) (cell : Cell), U.vm.findClass C = some c ∧ U.fieldFound? C n d = some (c, k, i, f) ∧ f.isStatic = true ∧ k.statics = some a ∧ H[a]? = some cell ∧ cell.vm.isStatics = true ∧ cell.cls = c ∧ f.slot < cell.slots.size ∧ k.staticTypes[f.slot]? = some f.type ∧ ¬ A a
theorem vx_L.moved {C n d : String} {A : Nat → Prop} {u U : State} {H : Heap} (hvm : u.vm.Alike U.vm) (h : vx_L C n d A u H) : vx_L C n d A U H := by
  obtain ⟨c, k, i, f, a, cell, h1, h2, h3, h4, h5, h6, h7, h8, h9, h10⟩ := h
  obtain ⟨k', hi', he⟩ := State.fieldFound?_setVm hvm h2
  exact ⟨c, k', i, f, a, cell, by rw [hvm.findClass]; exact h1, hi', h3, by rw [he]; exact h4, h5, h6, h7, h8, by rw [he]; exact h9, h10⟩
theorem vx_L.kept {C n d : String} {A : Nat → Prop} {U : State} {H H1 : Heap} (h : vx_L C n d A U H) (hq : ∀ a : Nat, a < H.size → ¬ A a → H1[a]? = H[a]?) : vx_L C n d A U H1 := by
  obtain ⟨c, k, i, f, a, cell, h1, h2, h3, h4, h5, h6, h7, h8, h9, h10⟩ := h
  exact ⟨c, k, i, f, a, cell, h1, h2, h3, h4, by rw [hq a (Array.getElem?_eq_some_iff.mp h5).1 h10]; exact h5, h6, h7, h8, h9, h10⟩
theorem vx_L.narrow {C n d : String} {A B : Nat → Prop} {U : State} {H : Heap} (h : vx_L C n d A U H) (hAB : ∀ q, B q → A q) : vx_L C n d B U H := by
  obtain ⟨c, k, i, f, a, cell, h1, h2, h3, h4, h5, h6, h7, h8, h9, h10⟩ := h
  exact ⟨c, k, i, f, a, cell, h1, h2, h3, h4, h5, h6, h7, h8, h9, fun z => h10 (hAB _ z)⟩
theorem vx_L.word {C n d : String} {A : Nat → Prop} {s : State} {args : Array Value} (h : vx_L C n d A s s.heap) : (Cond.laysStatic C n d).before args s = true := by
  obtain ⟨c, k, i, f, a, cell, h1, h2, h3, h4, h5, h6, h7, h8, h9, -⟩ := h
  show (Cond.laysStatic C n d).holds args s none s [] = true
  exact Cond.laysStatic_of h1 h2 h3 h4 h5 h6 h7 h8 h9
/-- .. and what it holds: null or some reference -/
def vx_Zq (C n d : String) (A : Nat → Prop) (U : State) (H : Heap) : Prop := va_Zq C n d A U H ∧ vx_L C n d A U H
theorem vx_Zq.moved {C n d : String} {A : Nat → Prop} {u U : State} {H : Heap} (hvm : u.vm.Alike U.vm) (h : vx_Zq C n d A u H) : vx_Zq C n d A U H := ⟨va_Zq.moved hvm h.1, vx_L.moved hvm h.2⟩
theorem vx_Zq.kept {C n d : String} {A : Nat → Prop} {U : State} {H H1 : Heap} (h : vx_Zq C n d A U H) (hq : ∀ a : Nat, a < H.size → ¬ A a → H1[a]? = H[a]?) : vx_Zq C n d A U H1 := ⟨va_Zq.kept h.1 hq, vx_L.kept h.2 hq⟩
theorem vx_Zq.narrow {C n d : String} {A B : Nat → Prop} {U : State} {H : Heap} (h : vx_Zq C n d A U H) (hAB : ∀ q, B q → A q) : vx_Zq C n d B U H := ⟨va_Zq.narrow h.1 hAB, vx_L.narrow h.2 hAB⟩
theorem vx_Zqof {args : Array Value} {s : State} {C n d : String} {A : Nat → Prop} (hl : (Cond.laysStatic C n d).before args s = true) (hini : (Cond.initialized C).before args s = true) (h : (Cond.isRef (.static C n d)).before args s = true) (hA : ∀ a : Nat, a < s.heap.size → ¬ A a) : vx_Zq C n d A s s.heap := by
  refine ⟨va_Zqof hl hini h hA, ?_⟩
  obtain ⟨c, k, i, f, a, cell, h1, h2, h3, h4, h5, h6, h7, h8, h9⟩ := Cond.laysStatic_spec hl
  exact ⟨c, k, i, f, a, cell, h1, h2, h3, h4, h5, h6, h7, h8, h9, hA a (Array.getElem?_eq_some_iff.mp h5).1⟩
theorem vx_isRef {C n d : String} {v : Value} {A : Nat → Prop} {s : State} {args : Array Value} (h : va_Z C n d v A s s.heap) (hv : v.isRef = true) : (Cond.isRef (.static C n d)).before args s = true := by
  obtain ⟨cf, kf, fi, f, a, cell, h1, h2, h3, h4, h5, h6, h7, -⟩ := h
  have he : (Term.static C n d).eval args s none [] s = some v := by
    simp [Term.eval, State.fieldNamed?, h1, h2, h4, h5, h6, h7]
  simp only [Cond.before, Cond.holds, Cond.value, he]
  cases v <;> simp_all [Value.isRef]
theorem vx_isRefq {C n d : String} {A : Nat → Prop} {s : State} {args : Array Value} (h : va_Zq C n d A s s.heap) : (Cond.isRef (.static C n d)).before args s = true := by
  rcases h with h | ⟨t, h⟩
  · exact vx_isRef h rfl
  · exact vx_isRef h rfl
/-- the same frame, seen from here: as if the method were called anew in this heap -/
theorem vx_rebase {T : State} (X : Stand p l e R s m args below meth c T locs cells slots) {R' : Room} (hf : R'.frames ≤ R.frames) (hl : R'.locals ≤ R.locals) (hc : cells + R'.cells ≤ R.cells) (hs : slots + R'.slots ≤ R.slots) :
    Stand p l e R' ((T.setVm s.vm).setFrames (.invoking m args :: below)) m args below meth c T [] 0 0 := by
  have htop : (T.setVm s.vm).topJava?.isSome := X.here.top
  have hF : ((T.setVm s.vm).setFrames (.invoking m args :: below)).frames = .invoking m args :: below := State.frames_setFrames _ (State.cur_lt_of_top htop)
  obtain ⟨g₀, hg0⟩ := Option.isSome_iff_exists.mp htop
  obtain ⟨r, hr⟩ := State.topJava?_eq_some.mp hg0
  have hl9 : e.platform.stackLimits (T.setVm s.vm).me = e.platform.stackLimits s.me := X.limits
  have hb9 : (T.setVm s.vm).me.stackBytes = s.me.stackBytes := X.bytes
  refine ⟨X.admits, X.cas, X.clock, hF, ?_, X.hears, X.method, X.code, X.here, X.tail, X.warmed, ?_, ?_, ?_⟩
  · have h := X.room
    have hU : ((T.setVm s.vm).setFrames (.invoking m args :: below)).localsInUse = s.localsInUse := by
      rw [State.localsInUse_invoking hF (meth := meth) (c := c) X.method X.code, State.localsInUse_invoking X.frames X.method X.code]
    simp only [State.hasRoom, Bool.and_eq_true, decide_eq_true_eq] at h ⊢
    obtain ⟨⟨⟨⟨h1, h2, h3, h4, h5, h6⟩, h7⟩, h8⟩, h9⟩ := h
    rw [X.frames, List.length_cons] at h2 h3
    have q1 := X.heapSize
    have q2 := X.used
    simp only [hF, hU, List.length_cons, State.stackLimits_setFrames, State.stackBytes_setFrames, hl9, hb9]
    refine ⟨⟨⟨⟨by omega, by omega, by omega, by omega, by omega, h6⟩, ?_⟩, ?_⟩, X.book⟩
    · show T.heap.size + R'.cells ≤ e.platform.maxCells
      omega
    · show T.slotsUsed + R'.slots ≤ e.platform.maxSlots
      omega
  · rw [State.stackLimits_setFrames]; rfl
  · rw [State.stackBytes_setFrames]; rfl
  · refine ⟨?_, Nat.le_refl _, Nat.le_refl _, ?_, ?_, fun a c9 h9 => ⟨c9, h9, rfl, rfl, fun _ _ => rfl⟩⟩
    · obtain ⟨t, ht, -⟩ := State.frames_cons hr
      show T.setVm s.vm = { ((T.setVm s.vm).setFrames (.invoking m args :: below)).setFrames (T.setVm s.vm).frames with heap := T.heap, slotsUsed := T.slotsUsed }
      rw [State.setFrames_setFrames, State.setFrames_self ht]
      rfl
    · show T.slotsUsed = T.slotsUsed + ((T.heap.toList.drop T.heap.size).map (·.slots.size)).sum
      rw [List.drop_eq_nil_of_le (Nat.le_of_eq Array.length_toList)]
      rfl
    · show ((T.heap.toList.drop T.heap.size).map (·.slots.size)).sum ≤ 0
      rw [List.drop_eq_nil_of_le (Nat.le_of_eq Array.length_toList)]
      exact Nat.le_refl _
/-- 'throw new E()': new; dup; invokespecial; athrow -/
theorem vx_throw0 {cc : ByteArray} {pc : Nat} (hexec : p.tables.exec = Jvm.exec) (hb : c.code = cc) (hl : l.stackTraces = false) {own cls : String} {names : List String} {ik ic mc ms : Nat} {A : Nat → Prop}
    (hown : s.vm.findClass own = some m.cls) (hcls : Bundle.fit cls = true) (hnames : ∀ n ∈ names, Bundle.fit n = true)
    (hk : (Cond.classLink own ik cls).before args s = true) (hini : (Cond.initialized cls).before args s = true) (hat : ∀ w ∈ vx_at0 own ic cls names, w.before args s = true)
    (hgood : ∀ w ∈ Cond.classLink own ik cls :: Cond.initialized cls :: vx_at0 own ic cls names, vx_ot w = true)
    (hU : vx_Zq Bundle.tN "UNASSIGNED_STACK" Bundle.steD A s s.heap) (hN : vx_Zq Bundle.tN "SUPPRESSED_SENTINEL" Bundle.listD A s s.heap) (hS : va_S A s.heap H locs) (hsize : ls.size = c.maxLocals)
    (d0 : decode cc pc = .ok (.new ik, 3)) (d3 : decode cc (pc + 3) = .ok (.dup, 1)) (d4 : decode cc (pc + 4) = .ok (.invokespecial ic, 3)) (d7 : decode cc (pc + 7) = .ok (.athrow, 1))
    (hout : ∀ x ∈ c.exceptionTable.toList, covers x (pc + 7) = false)
    (hRframes : names.length + 3 < R.frames) (hRlocals : (rest.map fun v => v.category).sum + (13 * (names.length + 1) + 42) ≤ R.locals) (hRcells : cells + 1 ≤ R.cells) (hRslots : slots + 6 ≤ R.slots) (hlocks : meth.locks = false)
    (hx : ∀ t : State, s.vm.Alike t.vm → H.size ≤ t.heap.size → (∀ q : Nat, q < H.size → t.heap[q]? = H[q]?) → XC cls s t)
    (hf : ∀ z ∈ locs, free z.base) (hc : cells + 1 ≤ mc) (hs : slots + 6 ≤ ms) :
    W p l e R s m args below meth c H locs cells slots (vx_MQ below Qc XC args s mc ms free) (F0 m pc ls rest) := by
  intro T hT X
  have htr : e.platform.stackTraces = false := (show e.platform.stackTraces = l.stackTraces by rw [X.admits.platform]).trans hl
  have Y := vx_rebase X (R' := { frames := R.frames, locals := R.locals, cells := 1, slots := 6 }) (Nat.le_refl _) (Nat.le_refl _) hRcells hRslots
  obtain ⟨s', hA⟩ : ∃ z, z = (T.setVm s.vm).setFrames (.invoking m args :: below) := ⟨_, rfl⟩
  rw [← hA] at Y
  have hvm : s'.vm = s.vm := by rw [hA]; rfl
  have hhp : s'.heap = H := by rw [hA]; exact hT
  have hW0 : s.WarmedH s'.vm := by rw [hvm]; exact State.WarmedH.refl s
  have hat' : ∀ w ∈ vx_at0 own ic cls names, w.before args s' = true := fun w hw => vx_ot_at hW0 hvm.symm (hgood w (List.mem_cons_of_mem _ (List.mem_cons_of_mem _ hw))) (hat w hw)
  have hk' : (Cond.classLink own ik cls).before args s' = true := vx_ot_at hW0 hvm.symm (hgood _ List.mem_cons_self) hk
  have hini' : (Cond.initialized cls).before args s' = true := vx_ot_at hW0 hvm.symm (hgood _ (List.mem_cons_of_mem _ List.mem_cons_self)) hini
  have hU' : vx_Zq Bundle.tN "UNASSIGNED_STACK" Bundle.steD A s' s'.heap := by rw [hhp]; exact vx_Zq.moved hW0.alike (hU.kept hS.2.1)
  have hN' : vx_Zq Bundle.tN "SUPPRESSED_SENTINEL" Bundle.listD A s' s'.heap := by rw [hhp]; exact vx_Zq.moved hW0.alike (hN.kept hS.2.1)
  have h : ∀ w ∈ Bundle.ownAtoms0 own ic cls names, w.before args s' = true := vx_own hat' (vx_isRefq hU'.1) (vx_isRefq hN'.1) hU'.2.word hN'.2.word
  have hown' : s'.vm.findClass own = some m.cls := by rw [hvm]; exact hown
  have hins : (Cond.instantiable cls 6).before args s' = true := h _ (by simp [Bundle.ownAtoms0])
  obtain ⟨vm₁, cX, kX, hfX, hkX, -, -, X₁, st1⟩ := Y.newCold hexec (own := own) (C := cls) (index := ik) (n := 6) hown' hk' hins hini'
    (g := F0 m pc ls rest) rfl (by rw [hb]; exact d0) (Nat.le_refl _) (Nat.le_refl _)
  generalize hT1 : (T.setVm vm₁).pushCell { cls := cX, slots := kX.instanceTypes.map defaultValue, vm := .none } = T1 at X₁ st1
  have hcat : (Value.ref T.heap.size).category = 1 := rfl
  have hcellA : T1.heap[T.heap.size]? = some (freshCell cX kX) := by rw [← hT1]; exact State.heap_pushCell_size _ _
  have d3' : decode c.code (pc + 3) = .ok (.dup, 1) := by rw [hb]; exact d3
  obtain ⟨U, hsteps, hrun, hend, hW, hsame, ce, hce, hO⟩ := X₁.ctorThrow0 hexec htr (own := own) (cls := cls) (names := names) (ic := ic) hown' hcls hnames h (fun x hx => nomatch hx) hfX hkX hcellA (by rw [hhp, hT]; exact Nat.le_refl _)
    (g := { method := m, pc := pc + 4, locals := ls, stack := .ref T.heap.size :: .ref T.heap.size :: rest, locked := none }) rfl hsize rfl rfl (rest := rest) rfl
    (by rw [hb]; exact d4) (by rw [hb]; exact d7) hout hRframes (by simp only [List.map_cons, List.sum_cons, hcat]; omega) hlocks
  obtain ⟨f1, f2⟩ := vx_frame hsame
  rw [hhp] at f1 f2
  have hWs : s.WarmedH U.vm := State.WarmedH.trans hW0 hW
  have hcl : s.vm.findClass cls = some ce.cls := by
    have h9 := hO.cls
    rw [hvm] at h9
    exact h9
  have hall : s.sameButNew ({ U with vm := s.vm } : State) locs mc ms := by
    subst hA
    obtain ⟨e1, e2⟩ := hsame
    rw [State.setFrames_setFrames] at e1
    have h2 : (T.setVm s.vm).sameButNew ({ U with vm := s.vm } : State) [] (0 + 1) (0 + 6) := ⟨e1, e2⟩
    have h3 := X.same.trans h2
    rw [List.append_nil] at h3
    exact h3.mono hc hs
  refine ⟨U, ?_, .threw T.heap.size, hrun, hend, Or.inr ⟨T.heap.size, rfl, cls, ce, locs, hx U hWs.alike f1 (fun q hq => f2 q hq (fun z hz => nomatch hz)), hce, hO.vm, hcl, hWs, hall, hf⟩⟩
  refine st1 _ ?_
  show Steps p.tables e below (T1.setTop { method := m, pc := pc + 3, locals := ls, stack := .ref T.heap.size :: rest, locked := none }) _
  jvm_step X₁.here [X₁.here.top, hexec, d3', Value.category]
  exact hsteps
/-- 'throw new E("text")': new; dup; ldc; invokespecial; athrow -/
theorem vx_throwS {cc : ByteArray} {pc : Nat} (hexec : p.tables.exec = Jvm.exec) (hb : c.code = cc) (hl : l.stackTraces = false) {own cls text : String} {names : List String} {ik is ic mc ms sa : Nat} {A : Nat → Prop}
    (hown : s.vm.findClass own = some m.cls) (hcls : Bundle.fit cls = true) (hnames : ∀ n ∈ names, Bundle.fit n = true)
    (hk : (Cond.classLink own ik cls).before args s = true) (hini : (Cond.initialized cls).before args s = true) (hstr : vk_R own is text sa s) (hat : ∀ w ∈ vx_atS own ic cls names, w.before args s = true)
    (hgood : ∀ w ∈ Cond.classLink own ik cls :: Cond.initialized cls :: vx_atS own ic cls names, vx_ot w = true)
    (hU : vx_Zq Bundle.tN "UNASSIGNED_STACK" Bundle.steD A s s.heap) (hN : vx_Zq Bundle.tN "SUPPRESSED_SENTINEL" Bundle.listD A s s.heap) (hS : va_S A s.heap H locs) (hsize : ls.size = c.maxLocals)
    (d0 : decode cc pc = .ok (.new ik, 3)) (d3 : decode cc (pc + 3) = .ok (.dup, 1)) (d4 : decode cc (pc + 4) = .ok (.ldc is, 2)) (d6 : decode cc (pc + 6) = .ok (.invokespecial ic, 3)) (d9 : decode cc (pc + 9) = .ok (.athrow, 1))
    (hout : ∀ x ∈ c.exceptionTable.toList, covers x (pc + 9) = false)
    (hRframes : names.length + 3 < R.frames) (hRlocals : (rest.map fun v => v.category).sum + (13 * (names.length + 1) + 43) ≤ R.locals) (hRcells : cells + 1 ≤ R.cells) (hRslots : slots + 6 ≤ R.slots) (hlocks : meth.locks = false)
    (hx : ∀ t : State, s.vm.Alike t.vm → H.size ≤ t.heap.size → (∀ q : Nat, q < H.size → t.heap[q]? = H[q]?) → XC cls s t)
    (hf : ∀ z ∈ locs, free z.base) (hc : cells + 1 ≤ mc) (hs : slots + 6 ≤ ms) :
    W p l e R s m args below meth c H locs cells slots (vx_MQ below Qc XC args s mc ms free) (F0 m pc ls rest) := by
  intro T hT X
  have htr : e.platform.stackTraces = false := (show e.platform.stackTraces = l.stackTraces by rw [X.admits.platform]).trans hl
  have Y := vx_rebase X (R' := { frames := R.frames, locals := R.locals, cells := 1, slots := 6 }) (Nat.le_refl _) (Nat.le_refl _) hRcells hRslots
  obtain ⟨s', hA⟩ : ∃ z, z = (T.setVm s.vm).setFrames (.invoking m args :: below) := ⟨_, rfl⟩
  rw [← hA] at Y
  have hvm : s'.vm = s.vm := by rw [hA]; rfl
  have hhp : s'.heap = H := by rw [hA]; exact hT
  have hW0 : s.WarmedH s'.vm := by rw [hvm]; exact State.WarmedH.refl s
  have hat' : ∀ w ∈ vx_atS own ic cls names, w.before args s' = true := fun w hw => vx_ot_at hW0 hvm.symm (hgood w (List.mem_cons_of_mem _ (List.mem_cons_of_mem _ hw))) (hat w hw)
  have hk' : (Cond.classLink own ik cls).before args s' = true := vx_ot_at hW0 hvm.symm (hgood _ List.mem_cons_self) hk
  have hini' : (Cond.initialized cls).before args s' = true := vx_ot_at hW0 hvm.symm (hgood _ (List.mem_cons_of_mem _ List.mem_cons_self)) hini
  have hU' : vx_Zq Bundle.tN "UNASSIGNED_STACK" Bundle.steD A s' s'.heap := by rw [hhp]; exact vx_Zq.moved hW0.alike (hU.kept hS.2.1)
  have hN' : vx_Zq Bundle.tN "SUPPRESSED_SENTINEL" Bundle.listD A s' s'.heap := by rw [hhp]; exact vx_Zq.moved hW0.alike (hN.kept hS.2.1)
  have h : ∀ w ∈ Bundle.ownAtoms own ic cls names, w.before args s' = true := vx_own hat' (vx_isRefq hU'.1) (vx_isRefq hN'.1) hU'.2.word hN'.2.word
  have hown' : s'.vm.findClass own = some m.cls := by rw [hvm]; exact hown
  have hins : (Cond.instantiable cls 6).before args s' = true := h _ (by simp [Bundle.ownAtoms])
  obtain ⟨vm₁, cX, kX, hfX, hkX, -, -, X₁, st1⟩ := Y.newCold hexec (own := own) (C := cls) (index := ik) (n := 6) hown' hk' hins hini'
    (g := F0 m pc ls rest) rfl (by rw [hb]; exact d0) (Nat.le_refl _) (Nat.le_refl _)
  generalize hT1 : (T.setVm vm₁).pushCell { cls := cX, slots := kX.instanceTypes.map defaultValue, vm := .none } = T1 at X₁ st1
  have hcat : (Value.ref T.heap.size).category = 1 := rfl
  have hcellA : T1.heap[T.heap.size]? = some (freshCell cX kX) := by rw [← hT1]; exact State.heap_pushCell_size _ _
  have d3' : decode c.code (pc + 3) = .ok (.dup, 1) := by rw [hb]; exact d3
  have d4' : decode c.code (pc + 4) = .ok (.ldc is, 2) := by rw [hb]; exact d4
  have hstr' : vk_R own is text sa s' := vk_R.warm hW0 hstr
  obtain ⟨U, hsteps, hrun, hend, hW, hsame, ce, hce, hO⟩ := X₁.ctorThrowS hexec htr (own := own) (cls := cls) (names := names) (ic := ic) hown' hcls hnames h (fun x hx => nomatch hx) hfX hkX hcellA (by rw [hhp, hT]; exact Nat.le_refl _) (msg := .ref sa) rfl
    (g := { method := m, pc := pc + 6, locals := ls, stack := .ref sa :: .ref T.heap.size :: .ref T.heap.size :: rest, locked := none }) rfl hsize rfl rfl (rest := rest) rfl
    (by rw [hb]; exact d6) (by rw [hb]; exact d9) hout hRframes (by simp only [List.map_cons, List.sum_cons, hcat]; omega) hlocks
  obtain ⟨f1, f2⟩ := vx_frame hsame
  rw [hhp] at f1 f2
  have hWs : s.WarmedH U.vm := State.WarmedH.trans hW0 hW
  have hcl : s.vm.findClass cls = some ce.cls := by
    have h9 := hO.cls
    rw [hvm] at h9
    exact h9
  have hall : s.sameButNew ({ U with vm := s.vm } : State) locs mc ms := by
    subst hA
    obtain ⟨e1, e2⟩ := hsame
    rw [State.setFrames_setFrames] at e1
    have h2 : (T.setVm s.vm).sameButNew ({ U with vm := s.vm } : State) [] (0 + 1) (0 + 6) := ⟨e1, e2⟩
    have h3 := X.same.trans h2
    rw [List.append_nil] at h3
    exact h3.mono hc hs
  refine ⟨U, ?_, .threw T.heap.size, hrun, hend, Or.inr ⟨T.heap.size, rfl, cls, ce, locs, hx U hWs.alike f1 (fun q hq => f2 q hq (fun z hz => nomatch hz)), hce, hO.vm, hcl, hWs, hall, hf⟩⟩
  refine st1 _ ?_
  show Steps p.tables e below (T1.setTop { method := m, pc := pc + 3, locals := ls, stack := .ref T.heap.size :: rest, locked := none }) _
  jvm_step X₁.here [X₁.here.top, hexec, d3', Value.category]
  exact X₁.ldcString hexec (own := own) (text := text) (index := is) (a := sa) hown' hstr'.1 hstr'.2
    (g := { method := m, pc := pc + 4, locals := ls, stack := .ref T.heap.size :: .ref T.heap.size :: rest, locked := none }) rfl d4' _ hsteps
/-- 'throw new E("text")', the text by a wide index -/
theorem vx_throwSW {cc : ByteArray} {pc : Nat} (hexec : p.tables.exec = Jvm.exec) (hb : c.code = cc) (hl : l.stackTraces = false) {own cls text : String} {names : List String} {ik is ic mc ms sa : Nat} {A : Nat → Prop}
    (hown : s.vm.findClass own = some m.cls) (hcls : Bundle.fit cls = true) (hnames : ∀ n ∈ names, Bundle.fit n = true)
    (hk : (Cond.classLink own ik cls).before args s = true) (hini : (Cond.initialized cls).before args s = true) (hstr : vk_R own is text sa s) (hat : ∀ w ∈ vx_atS own ic cls names, w.before args s = true)
    (hgood : ∀ w ∈ Cond.classLink own ik cls :: Cond.initialized cls :: vx_atS own ic cls names, vx_ot w = true)
    (hU : vx_Zq Bundle.tN "UNASSIGNED_STACK" Bundle.steD A s s.heap) (hN : vx_Zq Bundle.tN "SUPPRESSED_SENTINEL" Bundle.listD A s s.heap) (hS : va_S A s.heap H locs) (hsize : ls.size = c.maxLocals)
    (d0 : decode cc pc = .ok (.new ik, 3)) (d3 : decode cc (pc + 3) = .ok (.dup, 1)) (d4 : decode cc (pc + 4) = .ok (.ldc_w is, 3)) (d7 : decode cc (pc + 7) = .ok (.invokespecial ic, 3)) (d10 : decode cc (pc + 10) = .ok (.athrow, 1))
    (hout : ∀ x ∈ c.exceptionTable.toList, covers x (pc + 10) = false)
    (hRframes : names.length + 3 < R.frames) (hRlocals : (rest.map fun v => v.category).sum + (13 * (names.length + 1) + 43) ≤ R.locals) (hRcells : cells + 1 ≤ R.cells) (hRslots : slots + 6 ≤ R.slots) (hlocks : meth.locks = false)
    (hx : ∀ t : State, s.vm.Alike t.vm → H.size ≤ t.heap.size → (∀ q : Nat, q < H.size → t.heap[q]? = H[q]?) → XC cls s t)
    (hf : ∀ z ∈ locs, free z.base) (hc : cells + 1 ≤ mc) (hs : slots + 6 ≤ ms) :
    W p l e R s m args below meth c H locs cells slots (vx_MQ below Qc XC args s mc ms free) (F0 m pc ls rest) := by
  intro T hT X
  have htr : e.platform.stackTraces = false := (show e.platform.stackTraces = l.stackTraces by rw [X.admits.platform]).trans hl
  have Y := vx_rebase X (R' := { frames := R.frames, locals := R.locals, cells := 1, slots := 6 }) (Nat.le_refl _) (Nat.le_refl _) hRcells hRslots
  obtain ⟨s', hA⟩ : ∃ z, z = (T.setVm s.vm).setFrames (.invoking m args :: below) := ⟨_, rfl⟩
  rw [← hA] at Y
  have hvm : s'.vm = s.vm := by rw [hA]; rfl
  have hhp : s'.heap = H := by rw [hA]; exact hT
  have hW0 : s.WarmedH s'.vm := by rw [hvm]; exact State.WarmedH.refl s
  have hat' : ∀ w ∈ vx_atS own ic cls names, w.before args s' = true := fun w hw => vx_ot_at hW0 hvm.symm (hgood w (List.mem_cons_of_mem _ (List.mem_cons_of_mem _ hw))) (hat w hw)
  have hk' : (Cond.classLink own ik cls).before args s' = true := vx_ot_at hW0 hvm.symm (hgood _ List.mem_cons_self) hk
  have hini' : (Cond.initialized cls).before args s' = true := vx_ot_at hW0 hvm.symm (hgood _ (List.mem_cons_of_mem _ List.mem_cons_self)) hini
  have hU' : vx_Zq Bundle.tN "UNASSIGNED_STACK" Bundle.steD A s' s'.heap := by rw [hhp]; exact vx_Zq.moved hW0.alike (hU.kept hS.2.1)
  have hN' : vx_Zq Bundle.tN "SUPPRESSED_SENTINEL" Bundle.listD A s' s'.heap := by rw [hhp]; exact vx_Zq.moved hW0.alike (hN.kept hS.2.1)
  have h : ∀ w ∈ Bundle.ownAtoms own ic cls names, w.before args s' = true := vx_own hat' (vx_isRefq hU'.1) (vx_isRefq hN'.1) hU'.2.word hN'.2.word
  have hown' : s'.vm.findClass own = some m.cls := by rw [hvm]; exact hown
  have hins : (Cond.instantiable cls 6).before args s' = true := h _ (by simp [Bundle.ownAtoms])
  obtain ⟨vm₁, cX, kX, hfX, hkX, -, -, X₁, st1⟩ := Y.newCold hexec (own := own) (C := cls) (index := ik) (n := 6) hown' hk' hins hini'
    (g := F0 m pc ls rest) rfl (by rw [hb]; exact d0) (Nat.le_refl _) (Nat.le_refl _)
  generalize hT1 : (T.setVm vm₁).pushCell { cls := cX, slots := kX.instanceTypes.map defaultValue, vm := .none } = T1 at X₁ st1
  have hcat : (Value.ref T.heap.size).category = 1 := rfl
  have hcellA : T1.heap[T.heap.size]? = some (freshCell cX kX) := by rw [← hT1]; exact State.heap_pushCell_size _ _
  have d3' : decode c.code (pc + 3) = .ok (.dup, 1) := by rw [hb]; exact d3
  have d4' : decode c.code (pc + 4) = .ok (.ldc_w is, 3) := by rw [hb]; exact d4
  have hstr' : vk_R own is text sa s' := vk_R.warm hW0 hstr
  obtain ⟨U, hsteps, hrun, hend, hW, hsame, ce, hce, hO⟩ := X₁.ctorThrowS hexec htr (own := own) (cls := cls) (names := names) (ic := ic) hown' hcls hnames h (fun x hx => nomatch hx) hfX hkX hcellA (by rw [hhp, hT]; exact Nat.le_refl _) (msg := .ref sa) rfl
    (g := { method := m, pc := pc + 7, locals := ls, stack := .ref sa :: .ref T.heap.size :: .ref T.heap.size :: rest, locked := none }) rfl hsize rfl rfl (rest := rest) rfl
    (by rw [hb]; exact d7) (by rw [hb]; exact d10) hout hRframes (by simp only [List.map_cons, List.sum_cons, hcat]; omega) hlocks
  obtain ⟨f1, f2⟩ := vx_frame hsame
  rw [hhp] at f1 f2
  have hWs : s.WarmedH U.vm := State.WarmedH.trans hW0 hW
  have hcl : s.vm.findClass cls = some ce.cls := by
    have h9 := hO.cls
    rw [hvm] at h9
    exact h9
  have hall : s.sameButNew ({ U with vm := s.vm } : State) locs mc ms := by
    subst hA
    obtain ⟨e1, e2⟩ := hsame
    rw [State.setFrames_setFrames] at e1
    have h2 : (T.setVm s.vm).sameButNew ({ U with vm := s.vm } : State) [] (0 + 1) (0 + 6) := ⟨e1, e2⟩
    have h3 := X.same.trans h2
    rw [List.append_nil] at h3
    exact h3.mono hc hs
  refine ⟨U, ?_, .threw T.heap.size, hrun, hend, Or.inr ⟨T.heap.size, rfl, cls, ce, locs, hx U hWs.alike f1 (fun q hq => f2 q hq (fun z hz => nomatch hz)), hce, hO.vm, hcl, hWs, hall, hf⟩⟩
  refine st1 _ ?_
  show Steps p.tables e below (T1.setTop { method := m, pc := pc + 3, locals := ls, stack := .ref T.heap.size :: rest, locked := none }) _
  jvm_step X₁.here [X₁.here.top, hexec, d3', Value.category]
  exact X₁.ldcStringW hexec (own := own) (text := text) (index := is) (a := sa) hown' hstr'.1 hstr'.2
    (g := { method := m, pc := pc + 4, locals := ls, stack := .ref T.heap.size :: .ref T.heap.size :: rest, locked := none }) rfl d4' _ hsteps
end Ends
section Bodies
variable {l : Launch}
theorem vx_ofW {y : MethodName} {ws ws' : List Cond} {rm : Room} {Pc : Array Value → State → Prop} {Qc : Array Value → State → Outcome → State → Prop} {XC : String → State → State → Prop} {mc ms : Nat} {free : Addr → Prop} {cc : ByteArray} {maxL : Nat} {ret : Option FieldType}
    (hy : plainName y.cls = true) (hw : ws = Cond.code y cc maxL ret :: ws')
    (body : ∀ p e s m args below meth c s₁, BodyLoose p l y (headSpec ws rm) cc maxL ret e s m args below meth c s₁ → c.maxLocals = maxL → (∀ x ∈ c.exceptionTable.toList, False) → Pc args s →
      W p l e (headSpec ws rm).room s m args below meth c s.heap [] 0 0 (vx_MQ below Qc XC args s mc ms free) (entryFrame m args maxL)) : vx_Met l y ws rm Pc Qc XC mc ms free := by
  refine MetFree.of_bodyS (code := cc) (maxLocals := maxL) (ret := ret) hy ?_ ?_
  · intro args s m h hn
    obtain ⟨meth, c, h1, h2, h3, h4, h5, h6, -, -⟩ := Cond.code_spec hn (atoms_spec (ws := ws) h _ (by rw [hw]; exact List.mem_cons_self))
    exact ⟨meth, c, h1, h2, h3, h4, h5, h6⟩
  · intro p e s m args below meth c s₁ B hml hP _
    have hh0 : s₁.heap = s.heap := by rw [B.state]; rfl
    have ht : ∀ x ∈ c.exceptionTable.toList, False := by
      obtain ⟨meth9, c9, h1, h2, -, -, -, -, h7, -⟩ := Cond.code_spec B.named (atoms_spec (ws := ws) B.pre _ (by rw [hw]; exact List.mem_cons_self))
      cases Option.some.inj (h1.symm.trans B.method)
      cases Option.some.inj (h2.symm.trans (Stand.of_body B).code)
      intro x hx
      rw [Array.isEmpty_iff.mp h7] at hx
      cases hx
    obtain ⟨t, a1, o, b1, b2, b3⟩ := body p e s m args below meth c s₁ B hml ht hP s₁ hh0 (Stand.of_body B)
    exact ⟨t, o, a1, b1, b2, b3⟩
/-- the table of a body with handlers -/
theorem vx_table {p : Program} {x y : MethodName} {S : Spec} {cc bytes : ByteArray} {maxL maxL' : Nat} {ret ret' : Option FieldType} {e : Env} {s s₁ : State} {m : MethodId} {args : Array Value} {below : List Frame} {meth : Method} {c : Code} {hh : List (Nat × Nat × Nat × Nat)}
    (B : BodyLoose p l y S cc maxL ret e s m args below meth c s₁) (h : (Cond.codeWith y bytes maxL' ret' hh).before args s = true) : c.exceptionTable.toList = tableOf hh := by
  obtain ⟨m9, meth9, c9, hn9, h1, h2, -, -, h6, -⟩ := Cond.codeWith_spec h
  cases Option.some.inj (hn9.symm.trans B.named)
  cases Option.some.inj (h1.symm.trans B.method)
  cases Option.some.inj (h2.symm.trans (Stand.of_body B).code)
  rw [← h6, table_eq]
end Bodies
end VXA
/-! ===== END ===== -/
/-! ===== BEGIN a static call of a method with an exception table ===== -/
section VXS
variable {p : Program} {l : Launch} {e : Env} {R : Room} {s : State} {m : MethodId} {args : Array Value} {below : List Frame} {meth : Method} {c : Code} {T : State} {H : Heap} {locs : List Loc} {cells slots : Nat}
abbrev vx_CSW (R : Room) (s : State) (args : Array Value) (own : String) (index : Nat) (y : MethodName) (bytes : ByteArray) (maxL : Nat) (ret : Option FieldType) (hh : List (Nat × Nat × Nat × Nat)) (ws : List Cond) (rm : Room) (mc ms n : Nat) : Prop :=
  (rm.cells = mc ∧ rm.slots = ms ∧ rm.frames + 1 ≤ R.frames ∧ 8 + (maxL + 11) + rm.locals ≤ R.locals ∧ (∀ w ∈ ws, ∀ (a' : Array Value) (U : State), s.WarmedH U.vm → w.before a' U = true) ∧ Cond.codeWith y bytes maxL ret hh ∈ ws) ∧
  (Cond.codeWith y bytes maxL ret hh).before args s = true ∧ (Cond.initialized y.cls).before args s = true ∧ (y.cls ≠ "java/lang/invoke/MethodHandle" ∧ y.cls ≠ "java/lang/invoke/VarHandle") ∧
  (∀ sig, parseMethodDescriptor y.desc = some sig → n = sig.parameters.length) ∧ (Cond.methodLink own index y).before args s = true ∧ (Cond.static y).before args s = true
theorem vx_cwSW {own : String} {index maxL mc ms : Nat} {y : MethodName} {bytes : ByteArray} {ret : Option FieldType} {hh : List (Nat × Nat × Nat × Nat)} {Ts ws ws' : List Cond} {rm : Room} (n : Nat) (ht : ∀ w ∈ Ts, w.before args s = true) (hT : GoodIn Ts (va_wsS own index y ws)) (hw : ws = Cond.codeWith y bytes maxL ret hh :: ws') (hrc : rm.cells = mc) (hrs : rm.slots = ms)
    (hd : y.cls ≠ "java/lang/invoke/MethodHandle" ∧ y.cls ≠ "java/lang/invoke/VarHandle" ∧ (parseMethodDescriptor y.desc).map (fun d => d.parameters.length) = some n) (hR : rm.frames + 1 ≤ R.frames ∧ 8 + (maxL + 11) + rm.locals ≤ R.locals) :
    vx_CSW R s args own index y bytes maxL ret hh ws rm mc ms n := by
  have ok : ∀ w ∈ va_wsS own index y ws, w.before args s = true := fun w h => ht w (hT w h).1
  have hG : GoodIn Ts ws := fun w h => hT w (by unfold va_wsS; exact List.mem_append_right _ h)
  have hc : Cond.codeWith y bytes maxL ret hh ∈ ws := by rw [hw]; exact List.mem_cons_self
  refine ⟨⟨hrc, hrs, hR.1, hR.2, pay_in ht hG, hc⟩, ht _ (hG _ hc).1, ok _ (by simp [va_wsS]), ⟨hd.1, hd.2.1⟩, fun sig h => ?_, ok _ (by simp [va_wsS]), ok _ (by simp [va_wsS])⟩
  have h2 := hd.2.2
  rw [h] at h2
  exact (Option.some.inj h2).symm
theorem vx_callSW (X : Stand p l e R s m args below meth c T locs cells slots) (hexec : p.tables.exec = Jvm.exec) {own : String} {index : Nat} {y : MethodName} {bytes : ByteArray} {maxL : Nat} {ret : Option FieldType} {hh : List (Nat × Nat × Nat × Nat)}
    (hown : s.vm.findClass own = some m.cls) (hlink : (Cond.methodLink own index y).before args s = true) (hstat : (Cond.static y).before args s = true) (hinit : (Cond.initialized y.cls).before args s = true)
    (hcode : (Cond.codeWith y bytes maxL ret hh).before args s = true) (hy : y.cls ≠ "java/lang/invoke/MethodHandle" ∧ y.cls ≠ "java/lang/invoke/VarHandle")
    {W9 : Nat} {Pre : Pt → Array Value → Prop} {Post : Pt → Array Value → Option Value → Pt → Prop} (hK : Back l R p e below s args y 3 W9 Pre Post)
    {g : JFrame} (hg : g.method = m) (hsize : g.locals.size = c.maxLocals) {argsL rest : List Value} (hlen : ∀ sig, parseMethodDescriptor y.desc = some sig → argsL.length = sig.parameters.length)
    (hstack : g.stack = argsL.reverse ++ rest) (hW : 2 * g.monitorRoom + (rest.map fun v => v.category).sum ≤ W9) (hdg : decode c.code g.pc = .ok (.invokestatic index, 3))
    (hpre : ∀ vm₁, s.WarmedH vm₁ → Pre ⟨T.setVm vm₁, locs, cells, slots⟩ argsL.toArray) :
    ∃ (v : Option Value) (vm₁ : Vm) (B : Pt), s.WarmedH vm₁ ∧ Stand p l e R s m args below meth c B.U B.locs B.cells B.slots ∧ Post ⟨T.setVm vm₁, locs, cells, slots⟩ argsL.toArray v B ∧
      ∀ target, Steps p.tables e below (B.U.setTop { g with pc := g.pc + 3, stack := v.toList ++ rest }) target → Steps p.tables e below (T.setTop g) target := by
  obtain ⟨mk, methM, cM, hnamed, hmethM, -, -, -, -, -, -, hsigM⟩ := Cond.codeWith_spec hcode
  have hstatic : methM.isStatic = true := Cond.static_spec hnamed hmethM hstat
  obtain ⟨kP, hkP, -⟩ := className_of_methodNamed hnamed
  have hinitP : kP.init = .initialized := Cond.initialized_spec (findClass_of_methodNamed hnamed) hkP hinit
  obtain ⟨vm₁, X₁, hstep₁⟩ := X.invokestatic hexec hown hlink hnamed hmethM hstatic hkP hinitP hy (g := g) hg (argsL := argsL) (rest := rest) (hlen _ hsigM) hstack hdg
  obtain ⟨v, B, X', hpost, hsteps⟩ := hK m meth c ⟨T.setVm vm₁, locs, cells, slots⟩ { g with stack := rest } (.invokestatic index) mk argsL.toArray X₁ hg hsize hdg hW (X₁.named hnamed) (hpre vm₁ X₁.warmed)
  exact ⟨v, vm₁, B, X₁.warmed, X', hpost, fun target h => hstep₁ _ fun acts => by rw [doInvoke_state]; exact hsteps.trans h⟩
theorem vx_runSW {y : MethodName} {bytes cc : ByteArray} {maxL nL mc ms n index : Nat} {ret : Option FieldType} {hh : List (Nat × Nat × Nat × Nat)} {ws : List Cond} {rm : Room} {Pc : Array Value → State → Prop} {Qc : Array Value → State → Outcome → State → Prop} {free : Addr → Prop} {Ts : List Cond} {own : String} {As rest : List Value} {g : JFrame}
    (S : CallFix p m c cc nL s args Ts own) (hM : Met l y ws rm Pc Qc mc ms free) (cw : vx_CSW R s args own index y bytes maxL ret hh ws rm mc ms n) (hp : PreS s H Pc As)
    (hg : g.method = m) (hn : As.length = n) (hsize : g.locals.size = nL) (hstack : g.stack = As.reverse ++ rest) (hW : 2 * g.monitorRoom + (rest.map fun v => v.category).sum ≤ 8) (hdg : decode cc g.pc = .ok (.invokestatic index, 3)) (hf : cells + mc ≤ R.cells ∧ slots + ms ≤ R.slots) :
    va_Run p l e R s m args below meth c H locs cells slots mc ms g rest (Qc As.toArray) (free) := by
  obtain ⟨⟨hrc, hrs, hfr, hlo, hws, hcw⟩, hcode, hini, hy, hlen, hl, hstt⟩ := cw
  have hK : Back l R p e below s args y 3 8 (PreOf R mc ms Pc) (PostOf Qc mc ms free) := va_backW (hh := hh) (bytes := bytes) (maxL := maxL) (ret := ret) hM hp.1 hrc hrs hfr hlo hws hcw (fun a' U hW => word_at hW (Or.inl (by first | rfl | simp [Cond.onTables, Cond.keeps, Cond.steady])) hini)
  obtain ⟨hx, hb, hml, ho, -⟩ := S
  intro T hT X
  obtain ⟨v, vm₁, ⟨U', l2, c2, s2⟩, hW₁, X', ⟨g', mk, t, L, e1, e2, hq, h1, hL, h2, h3⟩, st⟩ := vx_callSW X hx (hh := hh) (bytes := bytes) (maxL := maxL) (ret := ret) ho hl hstt hini hcode hy hK hg (hsize.trans hml.symm) (argsL := As) (rest := rest) (fun sig h => hn.trans (hlen sig h)) hstack hW (by rw [hb]; exact hdg)
    (fun vm₁ hW₁ => ⟨hf.1, hf.2, hp.2 (T.setVm vm₁) hT hW₁⟩)
  dsimp only [Pt.U, Pt.locs, Pt.cells, Pt.slots] at X' e1 e2 h1 h2 h3 st
  subst h1; subst h2; subst h3
  exact ⟨v, (T.setVm vm₁).calling g' mk As.toArray, t, U', L, hT, X', hL, e1, e2, hq, st⟩
/-- not caught here, past rows that name other classes: it goes on to the caller -/
theorem vx_outP {p : Program} {l : Launch} {e : Env} {R : Room} {s : State} {m : MethodId} {args : Array Value} {below : List Frame} {meth : Method} {c : Code} {H : Heap} {locs : List Loc} {cells slots : Nat} {free : Addr → Prop} {ls : Array Slot} {rest : List Value} {Qc : Array Value → State → Outcome → State → Prop} {XC : String → State → State → Prop}
    {pc : Nat} {own E : String} {ce : Cell} {q : Addr} {mc ms : Nat} (hown : s.vm.findClass own = some m.cls) (hlocks : meth.locks = false)
    (hpass : ∀ z ∈ c.exceptionTable.toList, covers z pc = false ∨ (z.catchType ≠ 0 ∧ ∃ nm : String, (Cond.classLink own z.catchType nm).before args s = true ∧ va_Nc E nm s)) (hcell : H[q]? = some ce) (hv : ce.vm = .none) (hcl : s.vm.findClass E = some ce.cls)
    (hx : ∀ t : State, t.heap = H → s.vm.Alike t.vm → XC E s t) (hf : ∀ z ∈ locs, free z.base) (hc : cells ≤ mc) (hs : slots ≤ ms) :
    vx_W p l e R s m args below meth c H locs cells slots (vx_MQ below Qc XC args s mc ms free) (F0 m pc ls rest) q := by
  intro T hT X
  have hpl : e.platform.magicAccessors = ({} : Platform).magicAccessors := by rw [X.admits.platform]
  obtain ⟨vm', hW', X', st⟩ := X.outThrough hlocks q (g := F0 m pc ls rest) rfl rfl rfl (cell := ce) (by rw [hT]; exact hcell) (by rw [hv]; rfl)
    (by obtain ⟨k9, h9, -⟩ := Vm.findClass_spec hcl; exact ⟨k9, h9⟩) (fun z hz => by
      rcases hpass z hz with h | ⟨hz0, nm, hl1, hn1⟩
      · exact Or.inl h
      · obtain ⟨c6, hc6, hcl6⟩ := Cond.classLink_spec hown hl1 e.platform hpl
        obtain ⟨a8, b8, h1, h2, h3⟩ := hn1
        cases Option.some.inj (h1.symm.trans hcl)
        cases Option.some.inj (h2.symm.trans hc6)
        exact Or.inr ⟨hz0, _, hcl6, h3⟩)
  obtain ⟨g₀, hfr⟩ := X'.frames_eq
  have hcell9 : ((T.setVm vm').setFrames (.throwing q :: below)).heap[q]? = some ce := by
    show T.heap[q]? = some ce
    rw [hT]; exact hcell
  have hend : Ended ((T.setVm vm').setFrames (.throwing q :: below)) below (.threw q) := State.frames_setFrames _ (State.cur_lt_of_frames hfr)
  refine ⟨(T.setVm vm').setFrames (.throwing q :: below), ?_, .threw q, X'.here.running, hend, Or.inr ⟨q, rfl, E, ce, locs, hx _ hT (X'.ends _).1.alike, hcell9, hv, hcl, (X'.ends _).1, (X'.ends _).2.mono hc hs, hf⟩⟩
  rw [X.pushThrowing_eq]
  exact st
/-- a thing of a world lies in the heap -/
theorem vx_lt {D : va_G} {cl : List vw_C} {ws : va_W} {H1 : Heap} (h : va_P D cl ws H1) {k : Nat} {q : Nat × va_E} (hk : ws[k]? = some q) : q.1 < H1.size := (h k q hk).lt
end VXS
/-! ===== END ===== -/
/-! ===== BEGIN methods with a table of their own: called by a name, returning or throwing ===== -/
section VXH
/-! vx_backW, vx_callVX, vx_callSX, vx_callVW, vx_runVW, vx_runVX, vx_runSX, vx_ofWH follow the same proofs as their sisters above (Free/Laws.lean, Shelf42/LK1.lean); vx_outP calls Shelf42/NT130.lean (outThrough). -/
section
variable {l : Launch} {R : Room} {p : Program} {e : Env} {below : List Frame} {s : State} {sargs : Array Value} {y : MethodName} {len W9 : Nat}
theorem vx_backW {ws : List Cond} {rm : Room} {Pc : Array Value → State → Prop} {Qc : Array Value → State → Outcome → State → Prop} {XC : String → State → State → Prop} {mc ms : Nat} {free : Addr → Prop} {bytes : ByteArray} {maxL : Nat} {ret : Option FieldType} {hh : List (Nat × Nat × Nat × Nat)}
    (hM : vx_Met l y ws rm Pc Qc XC mc ms free) (hblind : FrameBlind Pc) (hrc : rm.cells = mc) (hrs : rm.slots = ms)
    (hframes : rm.frames + 1 ≤ R.frames) (hlocals : W9 + (maxL + 11) + rm.locals ≤ R.locals)
    (hws : ∀ w ∈ ws, ∀ a' U, s.WarmedH U.vm → w.before a' U = true) (hcode : Cond.codeWith y bytes maxL ret hh ∈ ws) (hinit : ∀ a' U, s.WarmedH U.vm → (Cond.initialized y.cls).before a' U = true) :
    vx_Back l R p e below s sargs y len W9 (PreOf R mc ms Pc) (PostOf Qc mc ms free) (vx_Post XC mc ms free) := by
  intro m meth c A g ig mk a X hg hsize hdg hW hn hp
  have h1 : (headSpec ws rm).pre.before a A.U = true := atoms_intro fun w hw => hws w hw _ _ X.warmed
  have h2 : (Cond.codeWith y bytes maxL ret hh).before a A.U = true := hws _ hcode _ _ X.warmed
  have h3 : (Cond.initialized y.cls).before a A.U = true := hinit _ _ X.warmed
  have h4 : A.cells + (headSpec ws rm).room.cells ≤ R.cells := by rw [show (headSpec ws rm).room.cells = mc from hrc]; exact hp.1
  have h5 : A.slots + (headSpec ws rm).room.slots ≤ R.slots := by rw [show (headSpec ws rm).room.slots = ms from hrs]; exact hp.2.1
  have hPc : Pc a (A.U.calling g mk a) := hblind _ _ _ _ hp.2.2
  obtain ⟨U, Ls, c0, s0⟩ := A
  dsimp only [Pt.U, Pt.locs, Pt.cells, Pt.slots] at h1 h2 h3 h4 h5 X hn hPc ⊢
  obtain ⟨m9, methY, cY, hn9, hmY, hcY, -, hlY, -⟩ := Cond.codeWith_spec h2
  cases Option.some.inj (hn9.symm.trans hn)
  obtain ⟨kY, hkY, -⟩ := className_of_methodNamed hn
  have hinitY : kY.init = .initialized := Cond.initialized_spec (findClass_of_methodNamed hn) hkY h3
  have h : At U g.method c below := by rw [hg]; exact X.here
  have hlocals9 : W9 + (maxL + 11) + (headSpec ws rm).room.locals ≤ R.locals := hlocals
  have happ : (headSpec ws rm).appliesLoose y e.platform (U.calling g mk a) = true :=
    Spec.appliesLoose_calling (g := g) h hdg hn hkY hinitY
      (X.room_calling (g := g) (R' := (headSpec ws rm).room) hsize hmY hcY hframes (by rw [hlY]; omega) h4 h5) h1
  obtain ⟨mid, hmid⟩ := h.above
  have hfr : (U.setTop g).frames = (.java g :: mid) ++ below := by rw [State.frames_setTop' g h.top, hmid]; rfl
  obtain ⟨o, s₂, hsteps, -, hend, hq⟩ := Steps.callFree hM p X.admits X.cas X.clock (acts := []) hfr happ hPc trivial
  have hq' : vx_Q Qc XC mc ms free a (U.calling g mk a) o s₂ := hq
  rw [State.frames_setTop' g h.top] at hend
  obtain ⟨g₀, hg0⟩ := Option.isSome_iff_exists.mp h.top
  obtain ⟨r, hr⟩ := State.topJava?_eq_some.mp hg0
  have hr' : (({ U with heap := s₂.heap, slotsUsed := s₂.slotsUsed } : State).setVm s₂.vm).frames = .java g₀ :: r := hr
  rcases hq' with ⟨hqc, L, hfe, hL⟩ | ⟨q, rfl, E, ce, L, hx, hce, hcv, hcl, hW₂, hsm, hL⟩
  · obtain ⟨⟨v, rfl⟩, hW₂, e2, q2, q3, q4, q5, q6⟩ := id hfe
    have e3 : s₂ = ({ (U.calling g mk a).setFrames s₂.frames with heap := s₂.heap, slotsUsed := s₂.slotsUsed } : State).setVm s₂.vm := by
      have : s₂ = ({ s₂ with vm := (U.calling g mk a).vm } : State).setVm s₂.vm := rfl
      rw [e2] at this
      exact this
    obtain ⟨c₂, i₂, len₂, hc₂, hd₂, hf₂⟩ := hend
    have hW' : U.WarmedH s₂.vm := hW₂
    have hcc : c₂ = c := by
      have h1 : s₂.code? g.method = U.code? g.method := by
        rw [State.code?_eq, State.code?_eq, hW'.alike.method?]
      exact Option.some.inj (hc₂.symm.trans (h1.trans h.code))
    subst hcc
    have hlen : len₂ = len := by rw [hdg] at hd₂; cases hd₂; rfl
    subst hlen
    have hs₂ : s₂ = (({ U with heap := s₂.heap, slotsUsed := s₂.slotsUsed } : State).setVm s₂.vm).setTop { g with pc := g.pc + len₂, stack := v.toList ++ g.stack } := by
      refine e3.trans ?_
      rw [hf₂, State.calling_eq h.top, State.setFrames_setFrames, State.setTop_of_frames _ hr', hr]
      rfl
    have hsame : U.sameButNew ({ U with heap := s₂.heap, slotsUsed := s₂.slotsUsed } : State) L mc ms := by
      refine ⟨?_, q2, q3, q4, q5, q6⟩
      obtain ⟨t, ht, -⟩ := State.frames_cons hr
      show ({ U with heap := s₂.heap, slotsUsed := s₂.slotsUsed } : State) = { U.setFrames U.frames with heap := s₂.heap, slotsUsed := s₂.slotsUsed }
      rw [State.setFrames_self ht]
    subst hg
    refine Or.inl ⟨v, ⟨(({ U with heap := s₂.heap, slotsUsed := s₂.slotsUsed } : State).setVm s₂.vm), Ls ++ L, c0 + mc, s0 + ms⟩,
      ⟨X.admits, X.cas, X.clock, X.frames, X.room, X.hears, X.method, X.code, (X.here.setHeapUsed s₂.heap s₂.slotsUsed).setVm hW'.alike, X.tail, State.WarmedH.trans X.warmed hW', X.limits, X.bytes, X.same.trans (hsame.setVm s.vm)⟩,
      ⟨g, mk, s₂, L, rfl, rfl, hqc, rfl, hL, rfl, rfl⟩, ?_⟩
    show Steps p.tables e below _ ((({ U with heap := s₂.heap, slotsUsed := s₂.slotsUsed } : State).setVm s₂.vm).setTop { g with pc := g.pc + len₂, stack := v.toList ++ g.stack })
    rw [← hs₂]
    exact hsteps
  · obtain ⟨e2, q2, q3, q4, q5, q6⟩ := id hsm
    have e3 : s₂ = ({ (U.calling g mk a).setFrames s₂.frames with heap := s₂.heap, slotsUsed := s₂.slotsUsed } : State).setVm s₂.vm := by
      have : s₂ = ({ s₂ with vm := (U.calling g mk a).vm } : State).setVm s₂.vm := rfl
      rw [e2] at this
      exact this
    have hf₂ : s₂.frames = .throwing q :: .java g :: U.frames.tail := hend
    have hW' : U.WarmedH s₂.vm := hW₂
    have hs₂ : s₂ = ((({ U with heap := s₂.heap, slotsUsed := s₂.slotsUsed } : State).setVm s₂.vm).setTop g).pushFrame (.throwing q) := by
      refine e3.trans ?_
      rw [hf₂, State.calling_eq h.top, State.setFrames_setFrames, State.pushFrame, State.frames_setTop _ hr', State.setTop_of_frames _ hr', State.setFrames_setFrames, hr]
      rfl
    have hsame : U.sameButNew ({ U with heap := s₂.heap, slotsUsed := s₂.slotsUsed } : State) L mc ms := by
      refine ⟨?_, q2, q3, q4, q5, q6⟩
      obtain ⟨t, ht, -⟩ := State.frames_cons hr
      show ({ U with heap := s₂.heap, slotsUsed := s₂.slotsUsed } : State) = { U.setFrames U.frames with heap := s₂.heap, slotsUsed := s₂.slotsUsed }
      rw [State.setFrames_self ht]
    subst hg
    refine Or.inr ⟨q, ⟨(({ U with heap := s₂.heap, slotsUsed := s₂.slotsUsed } : State).setVm s₂.vm), Ls ++ L, c0 + mc, s0 + ms⟩,
      ⟨X.admits, X.cas, X.clock, X.frames, X.room, X.hears, X.method, X.code, (X.here.setHeapUsed s₂.heap s₂.slotsUsed).setVm hW'.alike, X.tail, State.WarmedH.trans X.warmed hW', X.limits, X.bytes, X.same.trans (hsame.setVm s.vm)⟩,
      ⟨g, mk, s₂, L, E, ce, rfl, rfl, hx, hce, hcv, hcl, rfl, hL, rfl, rfl⟩, ?_⟩
    show Steps p.tables e below _ (((({ U with heap := s₂.heap, slotsUsed := s₂.slotsUsed } : State).setVm s₂.vm).setTop g).pushFrame (.throwing q))
    rw [← hs₂]
    exact hsteps
end
variable {p : Program} {l : Launch} {e : Env} {R : Room} {s : State} {m : MethodId} {args : Array Value} {below : List Frame} {meth : Method} {c : Code} {T : State} {H : Heap} {locs : List Loc} {cells slots : Nat}
theorem vx_callVX (X : Stand p l e R s m args below meth c T locs cells slots) (hexec : p.tables.exec = Jvm.exec) {own C : String} {index : Nat} {y : MethodName} {bytes : ByteArray} {maxL : Nat} {ret : Option FieldType} {hh : List (Nat × Nat × Nat × Nat)}
    (hown : s.vm.findClass own = some m.cls) (hlink : (Cond.methodLink own index y).before args s = true) (hinst : (Cond.instanceMethod y).before args s = true) (hsel : (Cond.selects C y y).before args s = true)
    (hcode : (Cond.codeWith y bytes maxL ret hh).before args s = true) (hy : y.cls ≠ "java/lang/invoke/MethodHandle" ∧ y.cls ≠ "java/lang/invoke/VarHandle")
    {W9 : Nat} {Pre : Pt → Array Value → Prop} {Post : Pt → Array Value → Option Value → Pt → Prop} {PostX : Pt → Array Value → Addr → Pt → Prop} (hK : vx_Back l R p e below s args y 3 W9 Pre Post PostX)
    {b : Addr} {cellB : Cell} (hcell : T.heap[b]? = some cellB) (hobj : cellB.vm.isStatics = false) (hcls : s.vm.findClass C = some cellB.cls)
    {g : JFrame} (hg : g.method = m) (hsize : g.locals.size = c.maxLocals) {argsL rest : List Value} (hlen : ∀ sig, parseMethodDescriptor y.desc = some sig → argsL.length = sig.parameters.length)
    (hstack : g.stack = argsL.reverse ++ .ref b :: rest) (hW : 2 * g.monitorRoom + (rest.map fun v => v.category).sum ≤ W9) (hdg : decode c.code g.pc = .ok (.invokevirtual index, 3))
    (hpre : ∀ vm₁, s.WarmedH vm₁ → Pre ⟨T.setVm vm₁, locs, cells, slots⟩ (Value.ref b :: argsL).toArray) :
    (∃ (v : Option Value) (vm₁ : Vm) (B : Pt), s.WarmedH vm₁ ∧ Stand p l e R s m args below meth c B.U B.locs B.cells B.slots ∧ Post ⟨T.setVm vm₁, locs, cells, slots⟩ (Value.ref b :: argsL).toArray v B ∧
      ∀ target, Steps p.tables e below (B.U.setTop { g with pc := g.pc + 3, stack := v.toList ++ rest }) target → Steps p.tables e below (T.setTop g) target) ∨
    (∃ (q : Addr) (vm₁ : Vm) (B : Pt), s.WarmedH vm₁ ∧ Stand p l e R s m args below meth c B.U B.locs B.cells B.slots ∧ PostX ⟨T.setVm vm₁, locs, cells, slots⟩ (Value.ref b :: argsL).toArray q B ∧
      Steps p.tables e below (T.setTop g) ((B.U.setTop { g with stack := rest }).pushFrame (.throwing q))) := by
  obtain ⟨mk, methM, hnamed, hmethM, hstM, habM⟩ := Cond.instanceMethod_spec hinst
  obtain ⟨m8, methM', cM, hn8, hmethM', -, -, -, -, -, -, hsigM⟩ := Cond.codeWith_spec hcode
  cases Option.some.inj (hn8.symm.trans hnamed)
  cases hmethM.symm.trans hmethM'
  obtain ⟨c2, r2, m2, q1, q2, q3, q4, kP, hkP, hkPi⟩ := Cond.selects_spec hsel
  cases hcls.symm.trans q1
  cases (State.methodFound?_of_named hnamed hy).symm.trans q2
  cases hnamed.symm.trans q3
  have hselP : selectMethod e.platform s.vm cellB.cls mk = .method mk := by rw [Launch.admits_selectMethod X.admits]; exact q4
  obtain ⟨vm₁, X₁, hstep₁⟩ := X.invokevirtual hexec hown hlink hnamed hmethM hstM hkP hkPi hy (a := b) (cell := cellB) hcell
    (fun z h => by rw [h] at hobj; cases hobj) hselP hmethM habM hkP hkPi (g := g) hg (argsL := argsL) (rest := rest) (hlen _ hsigM) hstack hdg
  rcases hK m meth c ⟨T.setVm vm₁, locs, cells, slots⟩ { g with stack := rest } (.invokevirtual index) mk (Value.ref b :: argsL).toArray X₁ hg hsize hdg hW (X₁.named hnamed) (hpre vm₁ X₁.warmed) with ⟨v, B, X', hpost, hsteps⟩ | ⟨q, B, X', hpost, hsteps⟩
  · exact Or.inl ⟨v, vm₁, B, X₁.warmed, X', hpost, fun target h => hstep₁ _ fun acts => by rw [doInvoke_state]; exact hsteps.trans h⟩
  · exact Or.inr ⟨q, vm₁, B, X₁.warmed, X', hpost, hstep₁ _ fun acts => by rw [doInvoke_state]; exact hsteps⟩
theorem vx_callSX (X : Stand p l e R s m args below meth c T locs cells slots) (hexec : p.tables.exec = Jvm.exec) {own : String} {index : Nat} {y : MethodName} {bytes : ByteArray} {maxL : Nat} {ret : Option FieldType} {hh : List (Nat × Nat × Nat × Nat)}
    (hown : s.vm.findClass own = some m.cls) (hlink : (Cond.methodLink own index y).before args s = true) (hstat : (Cond.static y).before args s = true) (hinit : (Cond.initialized y.cls).before args s = true)
    (hcode : (Cond.codeWith y bytes maxL ret hh).before args s = true) (hy : y.cls ≠ "java/lang/invoke/MethodHandle" ∧ y.cls ≠ "java/lang/invoke/VarHandle")
    {W9 : Nat} {Pre : Pt → Array Value → Prop} {Post : Pt → Array Value → Option Value → Pt → Prop} {PostX : Pt → Array Value → Addr → Pt → Prop} (hK : vx_Back l R p e below s args y 3 W9 Pre Post PostX)
    {g : JFrame} (hg : g.method = m) (hsize : g.locals.size = c.maxLocals) {argsL rest : List Value} (hlen : ∀ sig, parseMethodDescriptor y.desc = some sig → argsL.length = sig.parameters.length)
    (hstack : g.stack = argsL.reverse ++ rest) (hW : 2 * g.monitorRoom + (rest.map fun v => v.category).sum ≤ W9) (hdg : decode c.code g.pc = .ok (.invokestatic index, 3))
    (hpre : ∀ vm₁, s.WarmedH vm₁ → Pre ⟨T.setVm vm₁, locs, cells, slots⟩ argsL.toArray) :
    (∃ (v : Option Value) (vm₁ : Vm) (B : Pt), s.WarmedH vm₁ ∧ Stand p l e R s m args below meth c B.U B.locs B.cells B.slots ∧ Post ⟨T.setVm vm₁, locs, cells, slots⟩ argsL.toArray v B ∧
      ∀ target, Steps p.tables e below (B.U.setTop { g with pc := g.pc + 3, stack := v.toList ++ rest }) target → Steps p.tables e below (T.setTop g) target) ∨
    (∃ (q : Addr) (vm₁ : Vm) (B : Pt), s.WarmedH vm₁ ∧ Stand p l e R s m args below meth c B.U B.locs B.cells B.slots ∧ PostX ⟨T.setVm vm₁, locs, cells, slots⟩ argsL.toArray q B ∧
      Steps p.tables e below (T.setTop g) ((B.U.setTop { g with stack := rest }).pushFrame (.throwing q))) := by
  obtain ⟨mk, methM, cM, hnamed, hmethM, -, -, -, -, -, -, hsigM⟩ := Cond.codeWith_spec hcode
  have hstatic : methM.isStatic = true := Cond.static_spec hnamed hmethM hstat
  obtain ⟨kP, hkP, -⟩ := className_of_methodNamed hnamed
  have hinitP : kP.init = .initialized := Cond.initialized_spec (findClass_of_methodNamed hnamed) hkP hinit
  obtain ⟨vm₁, X₁, hstep₁⟩ := X.invokestatic hexec hown hlink hnamed hmethM hstatic hkP hinitP hy (g := g) hg (argsL := argsL) (rest := rest) (hlen _ hsigM) hstack hdg
  rcases hK m meth c ⟨T.setVm vm₁, locs, cells, slots⟩ { g with stack := rest } (.invokestatic index) mk argsL.toArray X₁ hg hsize hdg hW (X₁.named hnamed) (hpre vm₁ X₁.warmed) with ⟨v, B, X', hpost, hsteps⟩ | ⟨q, B, X', hpost, hsteps⟩
  · exact Or.inl ⟨v, vm₁, B, X₁.warmed, X', hpost, fun target h => hstep₁ _ fun acts => by rw [doInvoke_state]; exact hsteps.trans h⟩
  · exact Or.inr ⟨q, vm₁, B, X₁.warmed, X', hpost, hstep₁ _ fun acts => by rw [doInvoke_state]; exact hsteps⟩
theorem vx_callVW (X : Stand p l e R s m args below meth c T locs cells slots) (hexec : p.tables.exec = Jvm.exec) {own C : String} {index : Nat} {y : MethodName} {bytes : ByteArray} {maxL : Nat} {ret : Option FieldType} {hh : List (Nat × Nat × Nat × Nat)}
    (hown : s.vm.findClass own = some m.cls) (hlink : (Cond.methodLink own index y).before args s = true) (hinst : (Cond.instanceMethod y).before args s = true) (hsel : (Cond.selects C y y).before args s = true)
    (hcode : (Cond.codeWith y bytes maxL ret hh).before args s = true) (hy : y.cls ≠ "java/lang/invoke/MethodHandle" ∧ y.cls ≠ "java/lang/invoke/VarHandle")
    {W9 : Nat} {Pre : Pt → Array Value → Prop} {Post : Pt → Array Value → Option Value → Pt → Prop} (hK : Back l R p e below s args y 3 W9 Pre Post)
    {b : Addr} {cellB : Cell} (hcell : T.heap[b]? = some cellB) (hobj : cellB.vm.isStatics = false) (hcls : s.vm.findClass C = some cellB.cls)
    {g : JFrame} (hg : g.method = m) (hsize : g.locals.size = c.maxLocals) {argsL rest : List Value} (hlen : ∀ sig, parseMethodDescriptor y.desc = some sig → argsL.length = sig.parameters.length)
    (hstack : g.stack = argsL.reverse ++ .ref b :: rest) (hW : 2 * g.monitorRoom + (rest.map fun v => v.category).sum ≤ W9) (hdg : decode c.code g.pc = .ok (.invokevirtual index, 3))
    (hpre : ∀ vm₁, s.WarmedH vm₁ → Pre ⟨T.setVm vm₁, locs, cells, slots⟩ (Value.ref b :: argsL).toArray) :
    ∃ (v : Option Value) (vm₁ : Vm) (B : Pt), s.WarmedH vm₁ ∧ Stand p l e R s m args below meth c B.U B.locs B.cells B.slots ∧ Post ⟨T.setVm vm₁, locs, cells, slots⟩ (Value.ref b :: argsL).toArray v B ∧
      ∀ target, Steps p.tables e below (B.U.setTop { g with pc := g.pc + 3, stack := v.toList ++ rest }) target → Steps p.tables e below (T.setTop g) target := by
  obtain ⟨mk, methM, hnamed, hmethM, hstM, habM⟩ := Cond.instanceMethod_spec hinst
  obtain ⟨m8, methM', cM, hn8, hmethM', -, -, -, -, -, -, hsigM⟩ := Cond.codeWith_spec hcode
  cases Option.some.inj (hn8.symm.trans hnamed)
  cases hmethM.symm.trans hmethM'
  obtain ⟨c2, r2, m2, q1, q2, q3, q4, kP, hkP, hkPi⟩ := Cond.selects_spec hsel
  cases hcls.symm.trans q1
  cases (State.methodFound?_of_named hnamed hy).symm.trans q2
  cases hnamed.symm.trans q3
  have hselP : selectMethod e.platform s.vm cellB.cls mk = .method mk := by rw [Launch.admits_selectMethod X.admits]; exact q4
  obtain ⟨vm₁, X₁, hstep₁⟩ := X.invokevirtual hexec hown hlink hnamed hmethM hstM hkP hkPi hy (a := b) (cell := cellB) hcell
    (fun z h => by rw [h] at hobj; cases hobj) hselP hmethM habM hkP hkPi (g := g) hg (argsL := argsL) (rest := rest) (hlen _ hsigM) hstack hdg
  obtain ⟨v, B, X', hpost, hsteps⟩ := hK m meth c ⟨T.setVm vm₁, locs, cells, slots⟩ { g with stack := rest } (.invokevirtual index) mk (Value.ref b :: argsL).toArray X₁ hg hsize hdg hW (X₁.named hnamed) (hpre vm₁ X₁.warmed)
  exact ⟨v, vm₁, B, X₁.warmed, X', hpost, fun target h => hstep₁ _ fun acts => by rw [doInvoke_state]; exact hsteps.trans h⟩
abbrev vx_CVW (R : Room) (s : State) (args : Array Value) (own C : String) (index : Nat) (y : MethodName) (bytes : ByteArray) (maxL : Nat) (ret : Option FieldType) (hh : List (Nat × Nat × Nat × Nat)) (ws : List Cond) (rm : Room) (mc ms n : Nat) : Prop :=
  (rm.cells = mc ∧ rm.slots = ms ∧ rm.frames + 1 ≤ R.frames ∧ 8 + (maxL + 11) + rm.locals ≤ R.locals ∧ (∀ w ∈ ws, ∀ (a' : Array Value) (U : State), s.WarmedH U.vm → w.before a' U = true) ∧ Cond.codeWith y bytes maxL ret hh ∈ ws) ∧
  (Cond.codeWith y bytes maxL ret hh).before args s = true ∧ (Cond.initialized y.cls).before args s = true ∧ (y.cls ≠ "java/lang/invoke/MethodHandle" ∧ y.cls ≠ "java/lang/invoke/VarHandle") ∧
  (∀ sig, parseMethodDescriptor y.desc = some sig → n = sig.parameters.length) ∧ (Cond.methodLink own index y).before args s = true ∧ (Cond.instanceMethod y).before args s = true ∧ (Cond.selects C y y).before args s = true
theorem vx_cwVW {own C : String} {index maxL mc ms : Nat} {y : MethodName} {bytes : ByteArray} {ret : Option FieldType} {hh : List (Nat × Nat × Nat × Nat)} {Ts ws ws' : List Cond} {rm : Room} (n : Nat) (ht : ∀ w ∈ Ts, w.before args s = true) (hT : GoodIn Ts (wsV own index C y ws)) (hw : ws = Cond.codeWith y bytes maxL ret hh :: ws') (hrc : rm.cells = mc) (hrs : rm.slots = ms)
    (hd : y.cls = C ∧ y.cls ≠ "java/lang/invoke/MethodHandle" ∧ y.cls ≠ "java/lang/invoke/VarHandle" ∧ (parseMethodDescriptor y.desc).map (fun d => d.parameters.length) = some n) (hR : rm.frames + 1 ≤ R.frames ∧ 8 + (maxL + 11) + rm.locals ≤ R.locals) :
    vx_CVW R s args own C index y bytes maxL ret hh ws rm mc ms n := by
  obtain ⟨hC, hd⟩ := hd
  subst hC
  have ok : ∀ w ∈ wsV own index y.cls y ws, w.before args s = true := fun w h => ht w (hT w h).1
  have hG : GoodIn Ts ws := fun w h => hT w (by unfold wsV; exact List.mem_append_right _ h)
  have hc : Cond.codeWith y bytes maxL ret hh ∈ ws := by rw [hw]; exact List.mem_cons_self
  refine ⟨⟨hrc, hrs, hR.1, hR.2, pay_in ht hG, hc⟩, ht _ (hG _ hc).1, ok _ (by simp [wsV]), ⟨hd.1, hd.2.1⟩, fun sig h => ?_, ok _ (by simp [wsV]), ok _ (by simp [wsV]), ok _ (by simp [wsV])⟩
  have h2 := hd.2.2
  rw [h] at h2
  exact (Option.some.inj h2).symm
theorem vx_runVW {y : MethodName} {bytes cc : ByteArray} {maxL nL mc ms n index : Nat} {ret : Option FieldType} {hh : List (Nat × Nat × Nat × Nat)} {ws : List Cond} {rm : Room} {Pc : Array Value → State → Prop} {Qc : Array Value → State → Outcome → State → Prop} {free : Addr → Prop} {Ts : List Cond} {own C : String} {b : Addr} {As rest : List Value} {g : JFrame}
    (S : CallFix p m c cc nL s args Ts own) (hM : Met l y ws rm Pc Qc mc ms free) (cw : vx_CVW R s args own C index y bytes maxL ret hh ws rm mc ms n) (hp : PreV s H C b Pc As)
    (hg : g.method = m) (hn : As.length = n) (hsize : g.locals.size = nL) (hstack : g.stack = As.reverse ++ .ref b :: rest) (hW : 2 * g.monitorRoom + (rest.map fun v => v.category).sum ≤ 8) (hdg : decode cc g.pc = .ok (.invokevirtual index, 3)) (hf : cells + mc ≤ R.cells ∧ slots + ms ≤ R.slots) :
    va_Run p l e R s m args below meth c H locs cells slots mc ms g rest (Qc (Value.ref b :: As).toArray) free := by
  obtain ⟨⟨hrc, hrs, hfr, hlo, hws, hcw⟩, hcode, hini, hy, hlen, hl, hin, hse⟩ := cw
  have hK : Back l R p e below s args y 3 8 (PreOf R mc ms Pc) (PostOf Qc mc ms free) := va_backW (hh := hh) (bytes := bytes) (maxL := maxL) (ret := ret) hM hp.1 hrc hrs hfr hlo hws hcw (fun a' U hW => word_at hW (Or.inl (by first | rfl | simp [Cond.onTables, Cond.keeps, Cond.steady])) hini)
  obtain ⟨hx, hb, hml, ho, -⟩ := S
  obtain ⟨-, ⟨cellB, hcB, hoB, hclB⟩, hPc⟩ := hp
  intro T hT X
  obtain ⟨v, vm₁, ⟨U', l2, c2, s2⟩, hW₁, X', ⟨g', mk, t, L, e1, e2, hq, h1, hL, h2, h3⟩, st⟩ := vx_callVW X hx (C := C) (hh := hh) (bytes := bytes) (maxL := maxL) (ret := ret) ho hl hin hse hcode hy hK (by rw [hT]; exact hcB) hoB hclB hg (hsize.trans hml.symm) (argsL := As) (rest := rest) (fun sig h => hn.trans (hlen sig h)) hstack hW (by rw [hb]; exact hdg)
    (fun vm₁ hW₁ => ⟨hf.1, hf.2, hPc (T.setVm vm₁) hT hW₁⟩)
  dsimp only [Pt.U, Pt.locs, Pt.cells, Pt.slots] at X' e1 e2 h1 h2 h3 st
  subst h1; subst h2; subst h3
  exact ⟨v, (T.setVm vm₁).calling g' mk (Value.ref b :: As).toArray, t, U', L, hT, X', hL, e1, e2, hq, st⟩
section
variable {y : MethodName} {bytes cc : ByteArray} {maxL nL mc ms n index : Nat} {ret : Option FieldType} {ws : List Cond} {rm : Room} {Pc : Array Value → State → Prop} {Qc : Array Value → State → Outcome → State → Prop} {XC : String → State → State → Prop} {free : Addr → Prop} {Ts : List Cond} {own C : String} {b : Addr} {As rest : List Value} {g : JFrame}
theorem vx_runVX {hh : List (Nat × Nat × Nat × Nat)} (S : CallFix p m c cc nL s args Ts own) (hM : vx_Met l y ws rm Pc Qc XC mc ms free) (cw : vx_CVW R s args own C index y bytes maxL ret hh ws rm mc ms n) (hp : PreV s H C b Pc As)
    (hg : g.method = m) (hn : As.length = n) (hsize : g.locals.size = nL) (hstack : g.stack = As.reverse ++ .ref b :: rest) (hW : 2 * g.monitorRoom + (rest.map fun v => v.category).sum ≤ 8) (hdg : decode cc g.pc = .ok (.invokevirtual index, 3)) (hf : cells + mc ≤ R.cells ∧ slots + ms ≤ R.slots) :
    vx_Run p l e R s m args below meth c H locs cells slots mc ms g rest (Qc (Value.ref b :: As).toArray) XC free := by
  obtain ⟨⟨hrc, hrs, hfr, hlo, hws, hcw⟩, hcode, hini, hy, hlen, hl, hin, hse⟩ := cw
  have hK : vx_Back l R p e below s args y 3 8 (PreOf R mc ms Pc) (PostOf Qc mc ms free) (vx_Post XC mc ms free) := vx_backW (hh := hh) (bytes := bytes) (maxL := maxL) (ret := ret) hM hp.1 hrc hrs hfr hlo hws hcw (fun a' U hW => word_at hW (Or.inl (by first | rfl | simp [Cond.onTables, Cond.keeps, Cond.steady])) hini)
  obtain ⟨hx, hb, hml, ho, -⟩ := S
  obtain ⟨-, ⟨cellB, hcB, hoB, hclB⟩, hPc⟩ := hp
  intro T hT X
  rcases vx_callVX X hx (C := C) (hh := hh) (bytes := bytes) (maxL := maxL) (ret := ret) ho hl hin hse hcode hy hK (by rw [hT]; exact hcB) hoB hclB hg (hsize.trans hml.symm) (argsL := As) (rest := rest) (fun sig h => hn.trans (hlen sig h)) hstack hW (by rw [hb]; exact hdg)
    (fun vm₁ hW₁ => ⟨hf.1, hf.2, hPc (T.setVm vm₁) hT hW₁⟩) with ⟨v, vm₁, ⟨U', l2, c2, s2⟩, hW₁, X', ⟨g', mk, t, L, e1, e2, hq, h1, hL, h2, h3⟩, st⟩ | ⟨q, vm₁, ⟨U', l2, c2, s2⟩, hW₁, X', ⟨g', mk, t, L, E, ce, e1, e2, hq, hce, hcv, hcl, h1, hL, h2, h3⟩, st⟩
  · dsimp only [Pt.U, Pt.locs, Pt.cells, Pt.slots] at X' e1 e2 h1 h2 h3 st
    subst h1; subst h2; subst h3
    exact Or.inl ⟨v, (T.setVm vm₁).calling g' mk (Value.ref b :: As).toArray, t, U', L, hT, X', hL, e1, e2, hq, st⟩
  · dsimp only [Pt.U, Pt.locs, Pt.cells, Pt.slots] at X' e1 e2 h1 h2 h3 st hcl
    subst h1; subst h2; subst h3
    exact Or.inr ⟨q, (T.setVm vm₁).calling g' mk (Value.ref b :: As).toArray, t, U', L, E, ce, hT, X', hL, e1, e2, hq, hce, hcv, vx_cls hW₁ hcl, st⟩
theorem vx_runSX {hh : List (Nat × Nat × Nat × Nat)} (S : CallFix p m c cc nL s args Ts own) (hM : vx_Met l y ws rm Pc Qc XC mc ms free) (cw : vx_CSW R s args own index y bytes maxL ret hh ws rm mc ms n) (hp : PreS s H Pc As)
    (hg : g.method = m) (hn : As.length = n) (hsize : g.locals.size = nL) (hstack : g.stack = As.reverse ++ rest) (hW : 2 * g.monitorRoom + (rest.map fun v => v.category).sum ≤ 8) (hdg : decode cc g.pc = .ok (.invokestatic index, 3)) (hf : cells + mc ≤ R.cells ∧ slots + ms ≤ R.slots) :
    vx_Run p l e R s m args below meth c H locs cells slots mc ms g rest (Qc As.toArray) XC free := by
  obtain ⟨⟨hrc, hrs, hfr, hlo, hws, hcw⟩, hcode, hini, hy, hlen, hl, hstt⟩ := cw
  have hK : vx_Back l R p e below s args y 3 8 (PreOf R mc ms Pc) (PostOf Qc mc ms free) (vx_Post XC mc ms free) := vx_backW (hh := hh) (bytes := bytes) (maxL := maxL) (ret := ret) hM hp.1 hrc hrs hfr hlo hws hcw (fun a' U hW => word_at hW (Or.inl (by first | rfl | simp [Cond.onTables, Cond.keeps, Cond.steady])) hini)
  obtain ⟨hx, hb, hml, ho, -⟩ := S
  intro T hT X
  rcases vx_callSX X hx (hh := hh) (bytes := bytes) (maxL := maxL) (ret := ret) ho hl hstt hini hcode hy hK hg (hsize.trans hml.symm) (argsL := As) (rest := rest) (fun sig h => hn.trans (hlen sig h)) hstack hW (by rw [hb]; exact hdg)
    (fun vm₁ hW₁ => ⟨hf.1, hf.2, hp.2 (T.setVm vm₁) hT hW₁⟩) with ⟨v, vm₁, ⟨U', l2, c2, s2⟩, hW₁, X', ⟨g', mk, t, L, e1, e2, hq, h1, hL, h2, h3⟩, st⟩ | ⟨q, vm₁, ⟨U', l2, c2, s2⟩, hW₁, X', ⟨g', mk, t, L, E, ce, e1, e2, hq, hce, hcv, hcl, h1, hL, h2, h3⟩, st⟩
  · dsimp only [Pt.U, Pt.locs, Pt.cells, Pt.slots] at X' e1 e2 h1 h2 h3 st
    subst h1; subst h2; subst h3
    exact Or.inl ⟨v, (T.setVm vm₁).calling g' mk As.toArray, t, U', L, hT, X', hL, e1, e2, hq, st⟩
  · dsimp only [Pt.U, Pt.locs, Pt.cells, Pt.slots] at X' e1 e2 h1 h2 h3 st hcl
    subst h1; subst h2; subst h3
    exact Or.inr ⟨q, (T.setVm vm₁).calling g' mk As.toArray, t, U', L, E, ce, hT, X', hL, e1, e2, hq, hce, hcv, vx_cls hW₁ hcl, st⟩
end
end VXH
theorem vx_ofWH {l : Launch} {y : MethodName} {ws ws' : List Cond} {rm : Room} {Pc : Array Value → State → Prop} {Qc : Array Value → State → Outcome → State → Prop} {XC : String → State → State → Prop} {mc ms : Nat} {free : Addr → Prop} {cc : ByteArray} {maxL : Nat} {ret : Option FieldType} {hh : List (Nat × Nat × Nat × Nat)}
    (hy : plainName y.cls = true) (hw : ws = Cond.codeWith y cc maxL ret hh :: ws')
    (body : ∀ p e s m args below meth c s₁, BodyLoose p l y (headSpec ws rm) cc maxL ret e s m args below meth c s₁ → c.maxLocals = maxL → Pc args s →
      W p l e (headSpec ws rm).room s m args below meth c s.heap [] 0 0 (vx_MQ below Qc XC args s mc ms free) (entryFrame m args maxL)) : vx_Met l y ws rm Pc Qc XC mc ms free := by
  refine MetFree.of_bodyS (code := cc) (maxLocals := maxL) (ret := ret) hy ?_ ?_
  · intro args s m h hn
    obtain ⟨m9, meth, c, hn9, h1, h2, h3, h4, -, h5, h6, -⟩ := Cond.codeWith_spec (atoms_spec (ws := ws) h _ (by rw [hw]; exact List.mem_cons_self))
    cases hn.symm.trans hn9
    exact ⟨meth, c, h1, h2, h3, h4, h5, h6⟩
  · intro p e s m args below meth c s₁ B hml hP _
    have hh0 : s₁.heap = s.heap := by rw [B.state]; rfl
    obtain ⟨t, a1, o, b1, b2, b3⟩ := body p e s m args below meth c s₁ B hml hP s₁ hh0 (Stand.of_body B)
    exact ⟨t, o, a1, b1, b2, b3⟩
/-! ===== END ===== -/
end
section
/-! NAMES: classes, fields, methods, the words that every method here stands on (written by wip/gen/names.py out of the claim) -/
def RX : String := "SlideRow"
def RM : String := "SlideRowModel"
def RL : String := "SlideRowLaw"
def RJ : String := "java/util/Arrays"
def TX : u_T := fun k => match k with
  | 0 => ("SlideRow", "roots", "[I", true)
  | 1 => ("SlideRow", "cells", "[I", false)
  | 2 => ("SlideRow", "limit", "I", false)
  | 3 => ("SlideRow", "used", "I", false)
  | 4 => ("SlideRow", "objects", "I", false)
  | 5 => ("SlideRow", "slides", "I", false)
  | 6 => ("SlideRow", "gone", "I", false)
  | 7 => ("SlideRow", "given", "I", false)
  | 8 => ("SlideRow", "firstReached", "I", false)
  | 9 => ("SlideRow", "lastReached", "I", false)
  | _ => ("SlideRow", "reached", "I", false)
def tX : Nat → FieldType := fun k => match k with
  | 0 => .array .int
  | 1 => .array .int
  | 2 => .int
  | 3 => .int
  | 4 => .int
  | 5 => .int
  | 6 => .int
  | 7 => .int
  | 8 => .int
  | 9 => .int
  | _ => .int
theorem nX : ∀ a, a < 11 → ∀ b, b < 11 → a ≠ b → (TX a).2.1 ≠ (TX b).2.1 := by decide +kernel
theorem tX_ok : ∀ k, k < 11 → parseFieldDescriptor (TX k).2.2.1 = some (tX k) := by decide +kernel
def TM : u_T := fun k => match k with
  | 0 => ("SlideRowModel", "thrown", "I", false)
  | 1 => ("SlideRowModel", "cells", "I", false)
  | 2 => ("SlideRowModel", "top", "I", false)
  | 3 => ("SlideRowModel", "fields", "[I", true)
  | 4 => ("SlideRowModel", "words", "[I", true)
  | 5 => ("SlideRowModel", "numbers", "[I", true)
  | 6 => ("SlideRowModel", "targets", "[I", true)
  | 7 => ("SlideRowModel", "reached", "[Z", true)
  | 8 => ("SlideRowModel", "data", "[I", true)
  | 9 => ("SlideRowModel", "roots", "[I", true)
  | 10 => ("SlideRowModel", "slides", "I", false)
  | 11 => ("SlideRowModel", "gone", "I", false)
  | _ => ("SlideRowModel", "given", "I", false)
def tM : Nat → FieldType := fun k => match k with
  | 0 => .int
  | 1 => .int
  | 2 => .int
  | 3 => .array .int
  | 4 => .array .int
  | 5 => .array .int
  | 6 => .array .int
  | 7 => .array .boolean
  | 8 => .array .int
  | 9 => .array .int
  | 10 => .int
  | 11 => .int
  | _ => .int
theorem nM : ∀ a, a < 13 → ∀ b, b < 13 → a ≠ b → (TM a).2.1 ≠ (TM b).2.1 := by decide +kernel
theorem tM_ok : ∀ k, k < 13 → parseFieldDescriptor (TM k).2.2.1 = some (tM k) := by decide +kernel
abbrev vwC : List vw_C := [(RX, TX, 11), (RM, TM, 13)]
abbrev bJ_fill : ByteArray := prog_10_method_103_code
def yJ_fill : MethodName := ⟨RJ, "fill", "([II)V"⟩
abbrev bL_count : ByteArray := method_13_code
def yL_count : MethodName := ⟨RL, "count", "(LSlideRow;I[J)I"⟩
abbrev bL_get : ByteArray := method_6_code
def yL_get : MethodName := ⟨RL, "get", "(LSlideRow;II[J)I"⟩
abbrev bL_law : ByteArray := code
def yL_law : MethodName := ⟨RL, "law", "([I)Z"⟩
abbrev bL_make : ByteArray := method_4_code
def yL_make : MethodName := ⟨RL, "make", "(LSlideRow;II[J)I"⟩
abbrev bL_next : ByteArray := method_12_code
def yL_next : MethodName := ⟨RL, "next", "(LSlideRow;I[J)I"⟩
abbrev bL_number : ByteArray := method_11_code
def yL_number : MethodName := ⟨RL, "number", "(LSlideRow;I[J)I"⟩
abbrev bL_put : ByteArray := method_7_code
def yL_put : MethodName := ⟨RL, "put", "(LSlideRow;III[J)I"⟩
abbrev bL_root : ByteArray := method_9_code
def yL_root : MethodName := ⟨RL, "root", "(LSlideRow;II[J)I"⟩
abbrev bL_rooted : ByteArray := method_10_code
def yL_rooted : MethodName := ⟨RL, "rooted", "(LSlideRow;I[J)I"⟩
abbrev bL_set : ByteArray := method_5_code
def yL_set : MethodName := ⟨RL, "set", "(LSlideRow;III[J)I"⟩
abbrev bL_space : ByteArray := method_3_code
def yL_space : MethodName := ⟨RL, "space", "(LSlideRow;I[J)I"⟩
abbrev bL_word : ByteArray := method_8_code
def yL_word : MethodName := ⟨RL, "word", "(LSlideRow;II[J)I"⟩
abbrev bM_bring : ByteArray := prog_3_method_18_code
def yM_bring : MethodName := ⟨RM, "bring", "(II)V"⟩
abbrev bM_count : ByteArray := prog_3_method_24_code
def yM_count : MethodName := ⟨RM, "count", "(I)I"⟩
abbrev bM_find : ByteArray := prog_3_method_22_code
def yM_find : MethodName := ⟨RM, "find", "(I)I"⟩
abbrev bM_get : ByteArray := prog_3_method_11_code
def yM_get : MethodName := ⟨RM, "get", "(II)I"⟩
abbrev bM_goes : ByteArray := prog_3_method_3_code
def yM_goes : MethodName := ⟨RM, "goes", "(Z)Z"⟩
abbrev bM_init : ByteArray := prog_3_method_1_code
def yM_init : MethodName := ⟨RM, "<init>", "()V"⟩
abbrev bM_isField : ByteArray := prog_3_method_8_code
def yM_isField : MethodName := ⟨RM, "isField", "(II)Z"⟩
abbrev bM_isObject : ByteArray := prog_3_method_4_code
def yM_isObject : MethodName := ⟨RM, "isObject", "(I)Z"⟩
abbrev bM_isRoot : ByteArray := prog_3_method_14_code
def yM_isRoot : MethodName := ⟨RM, "isRoot", "(I)Z"⟩
abbrev bM_isWord : ByteArray := prog_3_method_9_code
def yM_isWord : MethodName := ⟨RM, "isWord", "(II)Z"⟩
abbrev bM_make : ByteArray := prog_3_method_7_code
def yM_make : MethodName := ⟨RM, "make", "(II)I"⟩
abbrev bM_next : ByteArray := prog_3_method_23_code
def yM_next : MethodName := ⟨RM, "next", "(I)I"⟩
abbrev bM_number : ByteArray := prog_3_method_21_code
def yM_number : MethodName := ⟨RM, "number", "(I)I"⟩
abbrev bM_objects : ByteArray := prog_3_method_20_code
def yM_objects : MethodName := ⟨RM, "objects", "()I"⟩
abbrev bM_put : ByteArray := prog_3_method_12_code
def yM_put : MethodName := ⟨RM, "put", "(III)I"⟩
abbrev bM_reach : ByteArray := prog_3_method_17_code
def yM_reach : MethodName := ⟨RM, "reach", "()I"⟩
abbrev bM_root : ByteArray := prog_3_method_15_code
def yM_root : MethodName := ⟨RM, "root", "(II)I"⟩
abbrev bM_rooted : ByteArray := prog_3_method_16_code
def yM_rooted : MethodName := ⟨RM, "rooted", "(I)I"⟩
abbrev bM_set : ByteArray := prog_3_method_10_code
def yM_set : MethodName := ⟨RM, "set", "(III)I"⟩
abbrev bM_size : ByteArray := prog_3_method_5_code
def yM_size : MethodName := ⟨RM, "size", "(I)I"⟩
abbrev bM_slide : ByteArray := prog_3_method_19_code
def yM_slide : MethodName := ⟨RM, "slide", "()I"⟩
abbrev bM_space : ByteArray := prog_3_method_6_code
def yM_space : MethodName := ⟨RM, "space", "(I)I"⟩
abbrev bM_thrown : ByteArray := prog_3_method_2_code
def yM_thrown : MethodName := ⟨RM, "thrown", "()I"⟩
abbrev bM_word : ByteArray := prog_3_method_13_code
def yM_word : MethodName := ⟨RM, "word", "(II)I"⟩
abbrev bX_chainReached : ByteArray := prog_1_method_31_code
def yX_chainReached : MethodName := ⟨RX, "chainReached", "()V"⟩
abbrev bX_choosePlaces : ByteArray := prog_1_method_35_code
def yX_choosePlaces : MethodName := ⟨RX, "choosePlaces", "()I"⟩
abbrev bX_clearCells : ByteArray := prog_1_method_29_code
def yX_clearCells : MethodName := ⟨RX, "clearCells", "(II)V"⟩
abbrev bX_clearLinks : ByteArray := prog_1_method_32_code
def yX_clearLinks : MethodName := ⟨RX, "clearLinks", "()V"⟩
abbrev bX_count : ByteArray := prog_1_method_14_code
def yX_count : MethodName := ⟨RX, "count", "(I)I"⟩
abbrev bX_fieldCell : ByteArray := prog_1_method_21_code
def yX_fieldCell : MethodName := ⟨RX, "fieldCell", "(II)I"⟩
abbrev bX_fieldsOf : ByteArray := prog_1_method_23_code
def yX_fieldsOf : MethodName := ⟨RX, "fieldsOf", "(I)I"⟩
abbrev bX_find : ByteArray := prog_1_method_12_code
def yX_find : MethodName := ⟨RX, "find", "(I)I"⟩
abbrev bX_forgetAll : ByteArray := prog_1_method_15_code
def yX_forgetAll : MethodName := ⟨RX, "forgetAll", "()V"⟩
abbrev bX_get : ByteArray := prog_1_method_5_code
def yX_get : MethodName := ⟨RX, "get", "(II)I"⟩
abbrev bX_init : ByteArray := prog_1_method_1_code
def yX_init : MethodName := ⟨RX, "<init>", "()V"⟩
abbrev bX_isObject : ByteArray := prog_1_method_18_code
def yX_isObject : MethodName := ⟨RX, "isObject", "(I)Z"⟩
abbrev bX_isPartCount : ByteArray := prog_1_method_16_code
def yX_isPartCount : MethodName := ⟨RX, "isPartCount", "(I)Z"⟩
abbrev bX_make : ByteArray := prog_1_method_3_code
def yX_make : MethodName := ⟨RX, "make", "(II)I"⟩
abbrev bX_moveCells : ByteArray := prog_1_method_30_code
def yX_moveCells : MethodName := ⟨RX, "moveCells", "(III)V"⟩
abbrev bX_moveReached : ByteArray := prog_1_method_40_code
def yX_moveReached : MethodName := ⟨RX, "moveReached", "()V"⟩
abbrev bX_needObject : ByteArray := prog_1_method_19_code
def yX_needObject : MethodName := ⟨RX, "needObject", "(I)V"⟩
abbrev bX_needObjectOrNothing : ByteArray := prog_1_method_20_code
def yX_needObjectOrNothing : MethodName := ⟨RX, "needObjectOrNothing", "(I)V"⟩
abbrev bX_needRoot : ByteArray := prog_1_method_17_code
def yX_needRoot : MethodName := ⟨RX, "needRoot", "(I)V"⟩
abbrev bX_next : ByteArray := prog_1_method_13_code
def yX_next : MethodName := ⟨RX, "next", "(I)I"⟩
abbrev bX_number : ByteArray := prog_1_method_11_code
def yX_number : MethodName := ⟨RX, "number", "(I)I"⟩
abbrev bX_placeOf : ByteArray := prog_1_method_36_code
def yX_placeOf : MethodName := ⟨RX, "placeOf", "(I)I"⟩
abbrev bX_put : ByteArray := prog_1_method_6_code
def yX_put : MethodName := ⟨RX, "put", "(III)I"⟩
abbrev bX_reach : ByteArray := prog_1_method_34_code
def yX_reach : MethodName := ⟨RX, "reach", "(I)V"⟩
abbrev bX_reachFieldsOf : ByteArray := prog_1_method_33_code
def yX_reachFieldsOf : MethodName := ⟨RX, "reachFieldsOf", "(I)V"⟩
abbrev bX_read : ByteArray := prog_1_method_26_code
def yX_read : MethodName := ⟨RX, "read", "(I)I"⟩
abbrev bX_redirectFields : ByteArray := prog_1_method_38_code
def yX_redirectFields : MethodName := ⟨RX, "redirectFields", "()V"⟩
abbrev bX_redirectFieldsOf : ByteArray := prog_1_method_39_code
def yX_redirectFieldsOf : MethodName := ⟨RX, "redirectFieldsOf", "(I)V"⟩
abbrev bX_redirectRoots : ByteArray := prog_1_method_37_code
def yX_redirectRoots : MethodName := ⟨RX, "redirectRoots", "()V"⟩
abbrev bX_replace : ByteArray := prog_1_method_28_code
def yX_replace : MethodName := ⟨RX, "replace", "(II)I"⟩
abbrev bX_root : ByteArray := prog_1_method_8_code
def yX_root : MethodName := ⟨RX, "root", "(II)I"⟩
abbrev bX_rooted : ByteArray := prog_1_method_9_code
def yX_rooted : MethodName := ⟨RX, "rooted", "(I)I"⟩
abbrev bX_set : ByteArray := prog_1_method_4_code
def yX_set : MethodName := ⟨RX, "set", "(III)I"⟩
abbrev bX_sizeOf : ByteArray := prog_1_method_25_code
def yX_sizeOf : MethodName := ⟨RX, "sizeOf", "(I)I"⟩
abbrev bX_slide : ByteArray := prog_1_method_10_code
def yX_slide : MethodName := ⟨RX, "slide", "()I"⟩
abbrev bX_space : ByteArray := prog_1_method_2_code
def yX_space : MethodName := ⟨RX, "space", "(I)I"⟩
abbrev bX_word : ByteArray := prog_1_method_7_code
def yX_word : MethodName := ⟨RX, "word", "(II)I"⟩
abbrev bX_wordCell : ByteArray := prog_1_method_22_code
def yX_wordCell : MethodName := ⟨RX, "wordCell", "(II)I"⟩
abbrev bX_wordsOf : ByteArray := prog_1_method_24_code
def yX_wordsOf : MethodName := ⟨RX, "wordsOf", "(I)I"⟩
abbrev bX_write : ByteArray := prog_1_method_27_code
def yX_write : MethodName := ⟨RX, "write", "(II)V"⟩
def sr_big_0 : List Cond := [Cond.selects RX yX_chainReached yX_chainReached, Cond.selects RX yX_clearLinks yX_clearLinks, Cond.selects RX yX_write yX_write, Cond.selects RX yX_sizeOf yX_sizeOf, Cond.selects RX yX_read yX_read, Cond.selects RX yX_reach yX_reach, Cond.selects RX yX_reachFieldsOf yX_reachFieldsOf, Cond.selects RX yX_fieldsOf yX_fieldsOf, Cond.selects RX yX_choosePlaces yX_choosePlaces, Cond.selects RX yX_redirectRoots yX_redirectRoots, Cond.selects RX yX_placeOf yX_placeOf, Cond.selects RX yX_redirectFields yX_redirectFields, Cond.selects RX yX_redirectFieldsOf yX_redirectFieldsOf, Cond.selects RX yX_moveReached yX_moveReached, Cond.selects RX yX_moveCells yX_moveCells, Cond.selects RX yX_forgetAll yX_forgetAll, Cond.selects RX yX_clearCells yX_clearCells, Cond.selects RX yX_fieldCell yX_fieldCell, Cond.selects RX yX_needObject yX_needObject, Cond.selects RX yX_isObject yX_isObject, Cond.selects RX yX_needObjectOrNothing yX_needObjectOrNothing, Cond.selects RX yX_replace yX_replace, Cond.selects RX yX_wordCell yX_wordCell, Cond.selects RX yX_wordsOf yX_wordsOf, Cond.selects RX yX_needRoot yX_needRoot, Cond.selects RM yM_goes yM_goes, Cond.selects RM yM_isField yM_isField, Cond.selects RM yM_isObject yM_isObject, Cond.selects RM yM_isWord yM_isWord, Cond.selects RM yM_reach yM_reach, Cond.selects RM yM_size yM_size, Cond.selects RM yM_objects yM_objects, Cond.selects RM yM_bring yM_bring, Cond.initialized RL, Cond.initialized RX, Cond.initialized RM, Cond.initialized "java/lang/Throwable", Cond.initialized "java/lang/Exception", Cond.initialized "java/lang/RuntimeException", Cond.initialized "java/lang/IllegalArgumentException"]
def sr_big_1 : List Cond := [Cond.initialized RJ, Cond.initialized "java/util/NoSuchElementException", Cond.initialized "java/lang/System", Cond.classLink RL 8 "SlideRow", Cond.instantiable RX 11, Cond.methodLink RL 49 yX_init, Cond.instanceMethod yX_init, Cond.code yX_init bX_init 1 none, Cond.methodLink RX 3 ⟨"java/lang/Object", "<init>", "()V"⟩, Cond.instanceMethod ⟨"java/lang/Object", "<init>", "()V"⟩, Cond.code ⟨"java/lang/Object", "<init>", "()V"⟩ object_method_1_code 1 none, Cond.fieldLink RX 9 "SlideRow" "roots" "[I", Cond.fieldLink RX 13 "SlideRow" "cells" "[I", Cond.fieldLink RX 16 "SlideRow" "limit" "I", Cond.fieldLink RX 36 "SlideRow" "used" "I", Cond.fieldLink RX 46 "SlideRow" "objects" "I", Cond.fieldLink RX 86 "SlideRow" "slides" "I", Cond.fieldLink RX 89 "SlideRow" "gone" "I", Cond.fieldLink RX 98 "SlideRow" "given" "I", Cond.fieldLink RX 141 "SlideRow" "firstReached" "I", Cond.fieldLink RX 144 "SlideRow" "lastReached" "I", Cond.fieldLink RX 92 "SlideRow" "reached" "I", Cond.laysFinal RX "SlideRow" "roots" "[I", Cond.lays RX "SlideRow" "cells" "[I", Cond.lays RX "SlideRow" "limit" "I", Cond.lays RX "SlideRow" "used" "I", Cond.lays RX "SlideRow" "objects" "I", Cond.lays RX "SlideRow" "slides" "I", Cond.lays RX "SlideRow" "gone" "I", Cond.lays RX "SlideRow" "given" "I", Cond.lays RX "SlideRow" "firstReached" "I", Cond.lays RX "SlideRow" "lastReached" "I", Cond.lays RX "SlideRow" "reached" "I", Cond.arrayClass .int, Cond.methodLink RL 86 yX_slide, Cond.instanceMethod yX_slide, Cond.selects RX yX_slide yX_slide, Cond.code yX_slide bX_slide 2 (some .int), Cond.methodLink RX 70 yX_chainReached, Cond.instanceMethod yX_chainReached]
def sr_big_2 : List Cond := [Cond.code yX_chainReached bX_chainReached 3 none, Cond.methodLink RX 138 yX_clearLinks, Cond.instanceMethod yX_clearLinks, Cond.code yX_clearLinks bX_clearLinks 3 none, Cond.methodLink RX 43 yX_write, Cond.instanceMethod yX_write, Cond.code yX_write bX_write 3 none, Cond.methodLink RX 101 yX_sizeOf, Cond.instanceMethod yX_sizeOf, Cond.code yX_sizeOf bX_sizeOf 3 (some .int), Cond.methodLink RX 60 yX_read, Cond.instanceMethod yX_read, Cond.code yX_read bX_read 2 (some .int), Cond.methodLink RX 147 yX_reach, Cond.instanceMethod yX_reach, Cond.code yX_reach bX_reach 2 none, Cond.methodLink RX 150 yX_reachFieldsOf, Cond.instanceMethod yX_reachFieldsOf, Cond.code yX_reachFieldsOf bX_reachFieldsOf 4 none, Cond.methodLink RX 122 yX_fieldsOf, Cond.instanceMethod yX_fieldsOf, Cond.code yX_fieldsOf bX_fieldsOf 2 (some .int), Cond.methodLink RX 73 yX_choosePlaces, Cond.instanceMethod yX_choosePlaces, Cond.code yX_choosePlaces bX_choosePlaces 5 (some .int), Cond.methodLink RX 77 yX_redirectRoots, Cond.instanceMethod yX_redirectRoots, Cond.code yX_redirectRoots bX_redirectRoots 2 none, Cond.methodLink RX 153 yX_placeOf, Cond.instanceMethod yX_placeOf, Cond.code yX_placeOf bX_placeOf 2 (some .int), Cond.methodLink RX 80 yX_redirectFields, Cond.instanceMethod yX_redirectFields, Cond.code yX_redirectFields bX_redirectFields 3 none, Cond.methodLink RX 156 yX_redirectFieldsOf, Cond.instanceMethod yX_redirectFieldsOf, Cond.code yX_redirectFieldsOf bX_redirectFieldsOf 5 none, Cond.methodLink RX 83 yX_moveReached, Cond.instanceMethod yX_moveReached, Cond.code yX_moveReached bX_moveReached 5 none]
def sr_big_3 : List Cond := [Cond.methodLink RX 159 yX_moveCells, Cond.instanceMethod yX_moveCells, Cond.code yX_moveCells bX_moveCells 4 none, Cond.methodLink RX 132 ⟨"java/lang/System", "arraycopy", "(Ljava/lang/Object;ILjava/lang/Object;II)V"⟩, Cond.static ⟨"java/lang/System", "arraycopy", "(Ljava/lang/Object;ILjava/lang/Object;II)V"⟩, Cond.native ⟨"java/lang/System", "arraycopy", "(Ljava/lang/Object;ILjava/lang/Object;II)V"⟩, Cond.methodLink RL 93 yX_find, Cond.instanceMethod yX_find, Cond.selects RX yX_find yX_find, Cond.code yX_find bX_find 4 (some .int), Cond.methodLink RL 53 yL_space, Cond.static yL_space, Cond.codeWith yL_space bL_space 4 (some .int) [(0, 9, 12, 13)], Cond.classLink RL 13 "java/lang/IllegalArgumentException", Cond.methodLink RL 7 yX_space, Cond.instanceMethod yX_space, Cond.selects RX yX_space yX_space, Cond.code yX_space bX_space 3 (some .int), Cond.classLink RX 20 "java/lang/IllegalArgumentException", Cond.instantiable "java/lang/IllegalArgumentException" 6, Cond.selects "java/lang/IllegalArgumentException" ⟨"java/lang/Throwable", "fillInStackTrace", "(I)Ljava/lang/Throwable;"⟩ ⟨"java/lang/Throwable", "fillInStackTrace", "(I)Ljava/lang/Throwable;"⟩, Cond.selects "java/lang/IllegalArgumentException" ⟨"java/lang/Throwable", "fillInStackTrace", "()Ljava/lang/Throwable;"⟩ ⟨"java/lang/Throwable", "fillInStackTrace", "()Ljava/lang/Throwable;"⟩, Cond.lays "java/lang/IllegalArgumentException" "java/lang/Throwable" "cause" "Ljava/lang/Throwable;", Cond.lays "java/lang/Throwable" "java/lang/Throwable" "cause" "Ljava/lang/Throwable;", Cond.lays "java/lang/IllegalArgumentException" "java/lang/Throwable" "stackTrace" "[Ljava/lang/StackTraceElement;", Cond.lays "java/lang/Throwable" "java/lang/Throwable" "stackTrace" "[Ljava/lang/StackTraceElement;", Cond.lays "java/lang/IllegalArgumentException" "java/lang/Throwable" "suppressedExceptions" "Ljava/util/List;", Cond.lays "java/lang/Throwable" "java/lang/Throwable" "suppressedExceptions" "Ljava/util/List;", Cond.lays "java/lang/IllegalArgumentException" "java/lang/Throwable" "detailMessage" "Ljava/lang/String;", Cond.lays "java/lang/Throwable" "java/lang/Throwable" "detailMessage" "Ljava/lang/String;", Cond.lays "java/lang/IllegalArgumentException" "java/lang/Throwable" "backtrace" "Ljava/lang/Object;", Cond.lays "java/lang/Throwable" "java/lang/Throwable" "backtrace" "Ljava/lang/Object;", Cond.fieldLink "java/lang/Throwable" 198 "java/lang/Throwable" "backtrace" "Ljava/lang/Object;", Cond.instanceMethod ⟨"java/lang/Throwable", "<init>", "()V"⟩, Cond.code ⟨"java/lang/Throwable", "<init>", "()V"⟩ prog_9_method_1_code 1 none, Cond.methodLink "java/lang/Throwable" 1 ⟨"java/lang/Object", "<init>", "()V"⟩, Cond.fieldLink "java/lang/Throwable" 13 "java/lang/Throwable" "UNASSIGNED_STACK" "[Ljava/lang/StackTraceElement;", Cond.fieldLink "java/lang/Throwable" 20 "java/lang/Throwable" "SUPPRESSED_SENTINEL" "Ljava/util/List;", Cond.methodLink "java/lang/Throwable" 27 ⟨"java/lang/Throwable", "fillInStackTrace", "()Ljava/lang/Throwable;"⟩, Cond.instanceMethod ⟨"java/lang/Throwable", "fillInStackTrace", "()Ljava/lang/Throwable;"⟩]
def sr_big_4 : List Cond := [Cond.selects "java/util/NoSuchElementException" ⟨"java/lang/Throwable", "fillInStackTrace", "()Ljava/lang/Throwable;"⟩ ⟨"java/lang/Throwable", "fillInStackTrace", "()Ljava/lang/Throwable;"⟩, Cond.methodLink "java/lang/Throwable" 202 ⟨"java/lang/Throwable", "fillInStackTrace", "(I)Ljava/lang/Throwable;"⟩, Cond.instanceMethod ⟨"java/lang/Throwable", "fillInStackTrace", "(I)Ljava/lang/Throwable;"⟩, Cond.instantiable "java/lang/Throwable" 6, Cond.native ⟨"java/lang/Throwable", "fillInStackTrace", "(I)Ljava/lang/Throwable;"⟩, Cond.methodLink RX 24 ⟨"java/lang/IllegalArgumentException", "<init>", "(Ljava/lang/String;)V"⟩, Cond.instanceMethod ⟨"java/lang/IllegalArgumentException", "<init>", "(Ljava/lang/String;)V"⟩, Cond.code ⟨"java/lang/IllegalArgumentException", "<init>", "(Ljava/lang/String;)V"⟩ prog_5_method_2_code 2 none, Cond.methodLink "java/lang/IllegalArgumentException" 7 ⟨"java/lang/RuntimeException", "<init>", "(Ljava/lang/String;)V"⟩, Cond.instanceMethod ⟨"java/lang/RuntimeException", "<init>", "(Ljava/lang/String;)V"⟩, Cond.code ⟨"java/lang/RuntimeException", "<init>", "(Ljava/lang/String;)V"⟩ prog_6_method_2_code 2 none, Cond.methodLink "java/lang/RuntimeException" 7 ⟨"java/lang/Exception", "<init>", "(Ljava/lang/String;)V"⟩, Cond.instanceMethod ⟨"java/lang/Exception", "<init>", "(Ljava/lang/String;)V"⟩, Cond.code ⟨"java/lang/Exception", "<init>", "(Ljava/lang/String;)V"⟩ prog_4_method_2_code 2 none, Cond.methodLink "java/lang/Exception" 7 ⟨"java/lang/Throwable", "<init>", "(Ljava/lang/String;)V"⟩, Cond.instanceMethod ⟨"java/lang/Throwable", "<init>", "(Ljava/lang/String;)V"⟩, Cond.code ⟨"java/lang/Throwable", "<init>", "(Ljava/lang/String;)V"⟩ prog_9_method_2_code 2 none, Cond.fieldLink "java/lang/Throwable" 31 "java/lang/Throwable" "detailMessage" "Ljava/lang/String;", Cond.fieldLink "java/lang/Throwable" 7 "java/lang/Throwable" "cause" "Ljava/lang/Throwable;", Cond.fieldLink "java/lang/Throwable" 17 "java/lang/Throwable" "stackTrace" "[Ljava/lang/StackTraceElement;", Cond.fieldLink "java/lang/Throwable" 24 "java/lang/Throwable" "suppressedExceptions" "Ljava/util/List;", Cond.lays "java/lang/IllegalArgumentException" "java/lang/Throwable" "depth" "I", Cond.arrayClass .byte, Cond.methodLink RX 27 yX_forgetAll, Cond.instanceMethod yX_forgetAll, Cond.code yX_forgetAll bX_forgetAll 1 none, Cond.methodLink RX 106 yJ_fill, Cond.static yJ_fill, Cond.code yJ_fill bJ_fill 4 none, Cond.methodLink RL 63 yL_make, Cond.static yL_make, Cond.codeWith yL_make bL_make 5 (some .int) [(0, 10, 13, 13)], Cond.methodLink RL 15 yX_make, Cond.instanceMethod yX_make, Cond.selects RX yX_make yX_make, Cond.code yX_make bX_make 5 (some .int), Cond.methodLink RX 30 yX_isPartCount, Cond.static yX_isPartCount, Cond.code yX_isPartCount bX_isPartCount 1 (some .boolean), Cond.methodLink RX 39 yX_clearCells]
def sr_big_5 : List Cond := [Cond.instanceMethod yX_clearCells, Cond.code yX_clearCells bX_clearCells 4 none, Cond.methodLink RL 67 yL_set, Cond.static yL_set, Cond.codeWith yL_set bL_set 6 (some .int) [(0, 12, 15, 23)], Cond.classLink RL 23 "java/util/NoSuchElementException", Cond.methodLink RL 19 yX_set, Cond.instanceMethod yX_set, Cond.selects RX yX_set yX_set, Cond.code yX_set bX_set 5 (some .int), Cond.methodLink RX 49 yX_fieldCell, Cond.instanceMethod yX_fieldCell, Cond.code yX_fieldCell bX_fieldCell 3 (some .int), Cond.methodLink RX 95 yX_needObject, Cond.instanceMethod yX_needObject, Cond.code yX_needObject bX_needObject 2 none, Cond.methodLink RX 117 yX_isObject, Cond.instanceMethod yX_isObject, Cond.code yX_isObject bX_isObject 4 (some .boolean), Cond.classLink RX 112 "java/util/NoSuchElementException", Cond.instantiable "java/util/NoSuchElementException" 6, Cond.selects "java/util/NoSuchElementException" ⟨"java/lang/Throwable", "fillInStackTrace", "(I)Ljava/lang/Throwable;"⟩ ⟨"java/lang/Throwable", "fillInStackTrace", "(I)Ljava/lang/Throwable;"⟩, Cond.lays "java/util/NoSuchElementException" "java/lang/Throwable" "cause" "Ljava/lang/Throwable;", Cond.lays "java/util/NoSuchElementException" "java/lang/Throwable" "stackTrace" "[Ljava/lang/StackTraceElement;", Cond.lays "java/util/NoSuchElementException" "java/lang/Throwable" "suppressedExceptions" "Ljava/util/List;", Cond.lays "java/util/NoSuchElementException" "java/lang/Throwable" "detailMessage" "Ljava/lang/String;", Cond.lays "java/util/NoSuchElementException" "java/lang/Throwable" "backtrace" "Ljava/lang/Object;", Cond.methodLink RX 116 ⟨"java/util/NoSuchElementException", "<init>", "(Ljava/lang/String;)V"⟩, Cond.instanceMethod ⟨"java/util/NoSuchElementException", "<init>", "(Ljava/lang/String;)V"⟩, Cond.code ⟨"java/util/NoSuchElementException", "<init>", "(Ljava/lang/String;)V"⟩ prog_11_method_4_code 2 none, Cond.methodLink "java/util/NoSuchElementException" 13 ⟨"java/lang/RuntimeException", "<init>", "(Ljava/lang/String;)V"⟩, Cond.lays "java/util/NoSuchElementException" "java/lang/Throwable" "depth" "I", Cond.methodLink RX 53 yX_needObjectOrNothing, Cond.instanceMethod yX_needObjectOrNothing, Cond.code yX_needObjectOrNothing bX_needObjectOrNothing 2 none, Cond.methodLink RX 57 yX_replace, Cond.instanceMethod yX_replace, Cond.code yX_replace bX_replace 4 (some .int), Cond.methodLink RL 71 yL_get, Cond.static yL_get]
def sr_big_6 : List Cond := [Cond.codeWith yL_get bL_get 5 (some .int) [(0, 10, 13, 23)], Cond.methodLink RL 25 yX_get, Cond.instanceMethod yX_get, Cond.selects RX yX_get yX_get, Cond.code yX_get bX_get 3 (some .int), Cond.methodLink RL 74 yL_put, Cond.static yL_put, Cond.codeWith yL_put bL_put 6 (some .int) [(0, 12, 15, 23)], Cond.methodLink RL 28 yX_put, Cond.instanceMethod yX_put, Cond.selects RX yX_put yX_put, Cond.code yX_put bX_put 4 (some .int), Cond.methodLink RX 64 yX_wordCell, Cond.instanceMethod yX_wordCell, Cond.code yX_wordCell bX_wordCell 3 (some .int), Cond.methodLink RX 127 yX_wordsOf, Cond.instanceMethod yX_wordsOf, Cond.code yX_wordsOf bX_wordsOf 2 (some .int), Cond.methodLink RL 77 yL_word, Cond.static yL_word, Cond.codeWith yL_word bL_word 5 (some .int) [(0, 10, 13, 23)], Cond.methodLink RL 31 yX_word, Cond.instanceMethod yX_word, Cond.selects RX yX_word yX_word, Cond.code yX_word bX_word 3 (some .int), Cond.methodLink RL 80 yL_root, Cond.static yL_root, Cond.codeWith yL_root bL_root 5 (some .int) [(0, 10, 13, 23)], Cond.methodLink RL 34 yX_root, Cond.instanceMethod yX_root, Cond.selects RX yX_root yX_root, Cond.code yX_root bX_root 4 (some .int), Cond.methodLink RX 67 yX_needRoot, Cond.instanceMethod yX_needRoot, Cond.code yX_needRoot bX_needRoot 2 none, Cond.methodLink RL 83 yL_rooted, Cond.static yL_rooted, Cond.codeWith yL_rooted bL_rooted 4 (some .int) [(0, 9, 12, 23)], Cond.methodLink RL 37 yX_rooted, Cond.instanceMethod yX_rooted]
def sr_big_7 : List Cond := [Cond.selects RX yX_rooted yX_rooted, Cond.code yX_rooted bX_rooted 2 (some .int), Cond.methodLink RL 90 yL_number, Cond.static yL_number, Cond.codeWith yL_number bL_number 4 (some .int) [(0, 9, 12, 23)], Cond.methodLink RL 40 yX_number, Cond.instanceMethod yX_number, Cond.selects RX yX_number yX_number, Cond.code yX_number bX_number 2 (some .int), Cond.methodLink RL 97 yL_next, Cond.static yL_next, Cond.codeWith yL_next bL_next 4 (some .int) [(0, 9, 12, 23)], Cond.methodLink RL 43 yX_next, Cond.instanceMethod yX_next, Cond.selects RX yX_next yX_next, Cond.code yX_next bX_next 3 (some .int), Cond.methodLink RL 100 yL_count, Cond.static yL_count, Cond.codeWith yL_count bL_count 4 (some .int) [(0, 9, 12, 13)], Cond.methodLink RL 46 yX_count, Cond.instanceMethod yX_count, Cond.selects RX yX_count yX_count, Cond.code yX_count bX_count 2 (some .int), Cond.classLink RL 50 "SlideRowModel", Cond.instantiable RM 13, Cond.methodLink RL 52 yM_init, Cond.instanceMethod yM_init, Cond.code yM_init bM_init 1 none, Cond.methodLink RM 1 ⟨"java/lang/Object", "<init>", "()V"⟩, Cond.fieldLink RM 39 "SlideRowModel" "thrown" "I", Cond.fieldLink RM 7 "SlideRowModel" "cells" "I", Cond.fieldLink RM 13 "SlideRowModel" "top" "I", Cond.fieldLink RM 16 "SlideRowModel" "fields" "[I", Cond.fieldLink RM 20 "SlideRowModel" "words" "[I", Cond.fieldLink RM 23 "SlideRowModel" "numbers" "[I", Cond.fieldLink RM 26 "SlideRowModel" "targets" "[I", Cond.fieldLink RM 29 "SlideRowModel" "reached" "[Z", Cond.fieldLink RM 33 "SlideRowModel" "data" "[I", Cond.fieldLink RM 36 "SlideRowModel" "roots" "[I", Cond.fieldLink RM 46 "SlideRowModel" "slides" "I"]
def sr_big_8 : List Cond := [Cond.fieldLink RM 49 "SlideRowModel" "gone" "I", Cond.fieldLink RM 52 "SlideRowModel" "given" "I", Cond.lays RM "SlideRowModel" "thrown" "I", Cond.lays RM "SlideRowModel" "cells" "I", Cond.lays RM "SlideRowModel" "top" "I", Cond.laysFinal RM "SlideRowModel" "fields" "[I", Cond.laysFinal RM "SlideRowModel" "words" "[I", Cond.laysFinal RM "SlideRowModel" "numbers" "[I", Cond.laysFinal RM "SlideRowModel" "targets" "[I", Cond.laysFinal RM "SlideRowModel" "reached" "[Z", Cond.laysFinal RM "SlideRowModel" "data" "[I", Cond.laysFinal RM "SlideRowModel" "roots" "[I", Cond.lays RM "SlideRowModel" "slides" "I", Cond.lays RM "SlideRowModel" "gone" "I", Cond.lays RM "SlideRowModel" "given" "I", Cond.arrayClass .boolean, Cond.methodLink RL 59 yM_thrown, Cond.instanceMethod yM_thrown, Cond.selects RM yM_thrown yM_thrown, Cond.code yM_thrown bM_thrown 1 (some .int), Cond.methodLink RL 58 yM_space, Cond.instanceMethod yM_space, Cond.selects RM yM_space yM_space, Cond.code yM_space bM_space 4 (some .int), Cond.methodLink RM 42 yM_goes, Cond.instanceMethod yM_goes, Cond.code yM_goes bM_goes 2 (some .boolean), Cond.methodLink RL 66 yM_make, Cond.instanceMethod yM_make, Cond.selects RM yM_make yM_make, Cond.code yM_make bM_make 6 (some .int), Cond.methodLink RL 70 yM_set, Cond.instanceMethod yM_set, Cond.selects RM yM_set yM_set, Cond.code yM_set bM_set 5 (some .int), Cond.methodLink RM 59 yM_isField, Cond.instanceMethod yM_isField, Cond.code yM_isField bM_isField 3 (some .boolean), Cond.methodLink RM 55 yM_isObject, Cond.instanceMethod yM_isObject]
def sr_big_9 : List Cond := [Cond.code yM_isObject bM_isObject 2 (some .boolean), Cond.methodLink RL 73 yM_get, Cond.instanceMethod yM_get, Cond.selects RM yM_get yM_get, Cond.code yM_get bM_get 3 (some .int), Cond.methodLink RL 76 yM_put, Cond.instanceMethod yM_put, Cond.selects RM yM_put yM_put, Cond.code yM_put bM_put 6 (some .int), Cond.methodLink RM 63 yM_isWord, Cond.instanceMethod yM_isWord, Cond.code yM_isWord bM_isWord 3 (some .boolean), Cond.methodLink RL 79 yM_word, Cond.instanceMethod yM_word, Cond.selects RM yM_word yM_word, Cond.code yM_word bM_word 3 (some .int), Cond.methodLink RL 82 yM_root, Cond.instanceMethod yM_root, Cond.selects RM yM_root yM_root, Cond.code yM_root bM_root 4 (some .int), Cond.methodLink RM 66 yM_isRoot, Cond.static yM_isRoot, Cond.code yM_isRoot bM_isRoot 1 (some .boolean), Cond.methodLink RL 85 yM_rooted, Cond.instanceMethod yM_rooted, Cond.selects RM yM_rooted yM_rooted, Cond.code yM_rooted bM_rooted 2 (some .int), Cond.methodLink RL 89 yM_slide, Cond.instanceMethod yM_slide, Cond.selects RM yM_slide yM_slide, Cond.code yM_slide bM_slide 6 (some .int), Cond.methodLink RM 73 yM_reach, Cond.instanceMethod yM_reach, Cond.code yM_reach bM_reach 6 (some .int), Cond.methodLink RM 69 yM_size, Cond.instanceMethod yM_size, Cond.code yM_size bM_size 2 (some .int), Cond.methodLink RM 77 yM_objects, Cond.instanceMethod yM_objects, Cond.code yM_objects bM_objects 3 (some .int)]
def sr_big_10 : List Cond := [Cond.methodLink RM 80 yM_bring, Cond.instanceMethod yM_bring, Cond.code yM_bring bM_bring 8 none, Cond.methodLink RL 92 yM_number, Cond.instanceMethod yM_number, Cond.selects RM yM_number yM_number, Cond.code yM_number bM_number 2 (some .int), Cond.methodLink RL 96 yM_find, Cond.instanceMethod yM_find, Cond.selects RM yM_find yM_find, Cond.code yM_find bM_find 3 (some .int), Cond.methodLink RL 99 yM_next, Cond.instanceMethod yM_next, Cond.selects RM yM_next yM_next, Cond.code yM_next bM_next 3 (some .int), Cond.methodLink RL 102 yM_count, Cond.instanceMethod yM_count, Cond.selects RM yM_count yM_count, Cond.code yM_count bM_count 2 (some .int), Cond.arrayClass .long]
def sr_big : List Cond := sr_big_0 ++ (sr_big_1 ++ (sr_big_2 ++ (sr_big_3 ++ (sr_big_4 ++ (sr_big_5 ++ (sr_big_6 ++ (sr_big_7 ++ (sr_big_8 ++ (sr_big_9 ++ (sr_big_10))))))))))
theorem bw_0 : Cond.selects RX yX_chainReached yX_chainReached ∈ sr_big := (List.mem_append_left _ (List.mem_of_getElem? (i := 0) rfl))
theorem bw_1 : Cond.selects RX yX_clearLinks yX_clearLinks ∈ sr_big := (List.mem_append_left _ (List.mem_of_getElem? (i := 1) rfl))
theorem bw_2 : Cond.selects RX yX_write yX_write ∈ sr_big := (List.mem_append_left _ (List.mem_of_getElem? (i := 2) rfl))
theorem bw_3 : Cond.selects RX yX_sizeOf yX_sizeOf ∈ sr_big := (List.mem_append_left _ (List.mem_of_getElem? (i := 3) rfl))
theorem bw_4 : Cond.selects RX yX_read yX_read ∈ sr_big := (List.mem_append_left _ (List.mem_of_getElem? (i := 4) rfl))
theorem bw_5 : Cond.selects RX yX_reach yX_reach ∈ sr_big := (List.mem_append_left _ (List.mem_of_getElem? (i := 5) rfl))
theorem bw_6 : Cond.selects RX yX_reachFieldsOf yX_reachFieldsOf ∈ sr_big := (List.mem_append_left _ (List.mem_of_getElem? (i := 6) rfl))
theorem bw_7 : Cond.selects RX yX_fieldsOf yX_fieldsOf ∈ sr_big := (List.mem_append_left _ (List.mem_of_getElem? (i := 7) rfl))
theorem bw_8 : Cond.selects RX yX_choosePlaces yX_choosePlaces ∈ sr_big := (List.mem_append_left _ (List.mem_of_getElem? (i := 8) rfl))
theorem bw_9 : Cond.selects RX yX_redirectRoots yX_redirectRoots ∈ sr_big := (List.mem_append_left _ (List.mem_of_getElem? (i := 9) rfl))
theorem bw_10 : Cond.selects RX yX_placeOf yX_placeOf ∈ sr_big := (List.mem_append_left _ (List.mem_of_getElem? (i := 10) rfl))
theorem bw_11 : Cond.selects RX yX_redirectFields yX_redirectFields ∈ sr_big := (List.mem_append_left _ (List.mem_of_getElem? (i := 11) rfl))
theorem bw_12 : Cond.selects RX yX_redirectFieldsOf yX_redirectFieldsOf ∈ sr_big := (List.mem_append_left _ (List.mem_of_getElem? (i := 12) rfl))
theorem bw_13 : Cond.selects RX yX_moveReached yX_moveReached ∈ sr_big := (List.mem_append_left _ (List.mem_of_getElem? (i := 13) rfl))
theorem bw_14 : Cond.selects RX yX_moveCells yX_moveCells ∈ sr_big := (List.mem_append_left _ (List.mem_of_getElem? (i := 14) rfl))
theorem bw_15 : Cond.selects RX yX_forgetAll yX_forgetAll ∈ sr_big := (List.mem_append_left _ (List.mem_of_getElem? (i := 15) rfl))
theorem bw_16 : Cond.selects RX yX_clearCells yX_clearCells ∈ sr_big := (List.mem_append_left _ (List.mem_of_getElem? (i := 16) rfl))
theorem bw_17 : Cond.selects RX yX_fieldCell yX_fieldCell ∈ sr_big := (List.mem_append_left _ (List.mem_of_getElem? (i := 17) rfl))
theorem bw_18 : Cond.selects RX yX_needObject yX_needObject ∈ sr_big := (List.mem_append_left _ (List.mem_of_getElem? (i := 18) rfl))
theorem bw_19 : Cond.selects RX yX_isObject yX_isObject ∈ sr_big := (List.mem_append_left _ (List.mem_of_getElem? (i := 19) rfl))
theorem bw_20 : Cond.selects RX yX_needObjectOrNothing yX_needObjectOrNothing ∈ sr_big := (List.mem_append_left _ (List.mem_of_getElem? (i := 20) rfl))
theorem bw_21 : Cond.selects RX yX_replace yX_replace ∈ sr_big := (List.mem_append_left _ (List.mem_of_getElem? (i := 21) rfl))
theorem bw_22 : Cond.selects RX yX_wordCell yX_wordCell ∈ sr_big := (List.mem_append_left _ (List.mem_of_getElem? (i := 22) rfl))
theorem bw_23 : Cond.selects RX yX_wordsOf yX_wordsOf ∈ sr_big := (List.mem_append_left _ (List.mem_of_getElem? (i := 23) rfl))
theorem bw_24 : Cond.selects RX yX_needRoot yX_needRoot ∈ sr_big := (List.mem_append_left _ (List.mem_of_getElem? (i := 24) rfl))
theorem bw_25 : Cond.selects RM yM_goes yM_goes ∈ sr_big := (List.mem_append_left _ (List.mem_of_getElem? (i := 25) rfl))
theorem bw_26 : Cond.selects RM yM_isField yM_isField ∈ sr_big := (List.mem_append_left _ (List.mem_of_getElem? (i := 26) rfl))
theorem bw_27 : Cond.selects RM yM_isObject yM_isObject ∈ sr_big := (List.mem_append_left _ (List.mem_of_getElem? (i := 27) rfl))
theorem bw_28 : Cond.selects RM yM_isWord yM_isWord ∈ sr_big := (List.mem_append_left _ (List.mem_of_getElem? (i := 28) rfl))
theorem bw_29 : Cond.selects RM yM_reach yM_reach ∈ sr_big := (List.mem_append_left _ (List.mem_of_getElem? (i := 29) rfl))
theorem bw_30 : Cond.selects RM yM_size yM_size ∈ sr_big := (List.mem_append_left _ (List.mem_of_getElem? (i := 30) rfl))
theorem bw_31 : Cond.selects RM yM_objects yM_objects ∈ sr_big := (List.mem_append_left _ (List.mem_of_getElem? (i := 31) rfl))
theorem bw_32 : Cond.selects RM yM_bring yM_bring ∈ sr_big := (List.mem_append_left _ (List.mem_of_getElem? (i := 32) rfl))
theorem bw_33 : Cond.initialized RL ∈ sr_big := (List.mem_append_left _ (List.mem_of_getElem? (i := 33) rfl))
theorem bw_34 : Cond.initialized RX ∈ sr_big := (List.mem_append_left _ (List.mem_of_getElem? (i := 34) rfl))
theorem bw_35 : Cond.initialized RM ∈ sr_big := (List.mem_append_left _ (List.mem_of_getElem? (i := 35) rfl))
theorem bw_36 : Cond.initialized "java/lang/Throwable" ∈ sr_big := (List.mem_append_left _ (List.mem_of_getElem? (i := 36) rfl))
theorem bw_37 : Cond.initialized "java/lang/Exception" ∈ sr_big := (List.mem_append_left _ (List.mem_of_getElem? (i := 37) rfl))
theorem bw_38 : Cond.initialized "java/lang/RuntimeException" ∈ sr_big := (List.mem_append_left _ (List.mem_of_getElem? (i := 38) rfl))
theorem bw_39 : Cond.initialized "java/lang/IllegalArgumentException" ∈ sr_big := (List.mem_append_left _ (List.mem_of_getElem? (i := 39) rfl))
theorem bw_40 : Cond.initialized RJ ∈ sr_big := (List.mem_append_right _ (List.mem_append_left _ (List.mem_of_getElem? (i := 0) rfl)))
theorem bw_41 : Cond.initialized "java/util/NoSuchElementException" ∈ sr_big := (List.mem_append_right _ (List.mem_append_left _ (List.mem_of_getElem? (i := 1) rfl)))
theorem bw_42 : Cond.initialized "java/lang/System" ∈ sr_big := (List.mem_append_right _ (List.mem_append_left _ (List.mem_of_getElem? (i := 2) rfl)))
theorem bw_43 : Cond.classLink RL 8 "SlideRow" ∈ sr_big := (List.mem_append_right _ (List.mem_append_left _ (List.mem_of_getElem? (i := 3) rfl)))
theorem bw_44 : Cond.instantiable RX 11 ∈ sr_big := (List.mem_append_right _ (List.mem_append_left _ (List.mem_of_getElem? (i := 4) rfl)))
theorem bw_45 : Cond.methodLink RL 49 yX_init ∈ sr_big := (List.mem_append_right _ (List.mem_append_left _ (List.mem_of_getElem? (i := 5) rfl)))
theorem bw_46 : Cond.instanceMethod yX_init ∈ sr_big := (List.mem_append_right _ (List.mem_append_left _ (List.mem_of_getElem? (i := 6) rfl)))
theorem bw_47 : Cond.code yX_init bX_init 1 none ∈ sr_big := (List.mem_append_right _ (List.mem_append_left _ (List.mem_of_getElem? (i := 7) rfl)))
theorem bw_48 : Cond.methodLink RX 3 ⟨"java/lang/Object", "<init>", "()V"⟩ ∈ sr_big := (List.mem_append_right _ (List.mem_append_left _ (List.mem_of_getElem? (i := 8) rfl)))
theorem bw_49 : Cond.instanceMethod ⟨"java/lang/Object", "<init>", "()V"⟩ ∈ sr_big := (List.mem_append_right _ (List.mem_append_left _ (List.mem_of_getElem? (i := 9) rfl)))
theorem bw_50 : Cond.code ⟨"java/lang/Object", "<init>", "()V"⟩ object_method_1_code 1 none ∈ sr_big := (List.mem_append_right _ (List.mem_append_left _ (List.mem_of_getElem? (i := 10) rfl)))
theorem bw_51 : Cond.fieldLink RX 9 "SlideRow" "roots" "[I" ∈ sr_big := (List.mem_append_right _ (List.mem_append_left _ (List.mem_of_getElem? (i := 11) rfl)))
theorem bw_52 : Cond.fieldLink RX 13 "SlideRow" "cells" "[I" ∈ sr_big := (List.mem_append_right _ (List.mem_append_left _ (List.mem_of_getElem? (i := 12) rfl)))
theorem bw_53 : Cond.fieldLink RX 16 "SlideRow" "limit" "I" ∈ sr_big := (List.mem_append_right _ (List.mem_append_left _ (List.mem_of_getElem? (i := 13) rfl)))
theorem bw_54 : Cond.fieldLink RX 36 "SlideRow" "used" "I" ∈ sr_big := (List.mem_append_right _ (List.mem_append_left _ (List.mem_of_getElem? (i := 14) rfl)))
theorem bw_55 : Cond.fieldLink RX 46 "SlideRow" "objects" "I" ∈ sr_big := (List.mem_append_right _ (List.mem_append_left _ (List.mem_of_getElem? (i := 15) rfl)))
theorem bw_56 : Cond.fieldLink RX 86 "SlideRow" "slides" "I" ∈ sr_big := (List.mem_append_right _ (List.mem_append_left _ (List.mem_of_getElem? (i := 16) rfl)))
theorem bw_57 : Cond.fieldLink RX 89 "SlideRow" "gone" "I" ∈ sr_big := (List.mem_append_right _ (List.mem_append_left _ (List.mem_of_getElem? (i := 17) rfl)))
theorem bw_58 : Cond.fieldLink RX 98 "SlideRow" "given" "I" ∈ sr_big := (List.mem_append_right _ (List.mem_append_left _ (List.mem_of_getElem? (i := 18) rfl)))
theorem bw_59 : Cond.fieldLink RX 141 "SlideRow" "firstReached" "I" ∈ sr_big := (List.mem_append_right _ (List.mem_append_left _ (List.mem_of_getElem? (i := 19) rfl)))
theorem bw_60 : Cond.fieldLink RX 144 "SlideRow" "lastReached" "I" ∈ sr_big := (List.mem_append_right _ (List.mem_append_left _ (List.mem_of_getElem? (i := 20) rfl)))
theorem bw_61 : Cond.fieldLink RX 92 "SlideRow" "reached" "I" ∈ sr_big := (List.mem_append_right _ (List.mem_append_left _ (List.mem_of_getElem? (i := 21) rfl)))
theorem bw_62 : Cond.laysFinal RX "SlideRow" "roots" "[I" ∈ sr_big := (List.mem_append_right _ (List.mem_append_left _ (List.mem_of_getElem? (i := 22) rfl)))
theorem bw_63 : Cond.lays RX "SlideRow" "cells" "[I" ∈ sr_big := (List.mem_append_right _ (List.mem_append_left _ (List.mem_of_getElem? (i := 23) rfl)))
theorem bw_64 : Cond.lays RX "SlideRow" "limit" "I" ∈ sr_big := (List.mem_append_right _ (List.mem_append_left _ (List.mem_of_getElem? (i := 24) rfl)))
theorem bw_65 : Cond.lays RX "SlideRow" "used" "I" ∈ sr_big := (List.mem_append_right _ (List.mem_append_left _ (List.mem_of_getElem? (i := 25) rfl)))
theorem bw_66 : Cond.lays RX "SlideRow" "objects" "I" ∈ sr_big := (List.mem_append_right _ (List.mem_append_left _ (List.mem_of_getElem? (i := 26) rfl)))
theorem bw_67 : Cond.lays RX "SlideRow" "slides" "I" ∈ sr_big := (List.mem_append_right _ (List.mem_append_left _ (List.mem_of_getElem? (i := 27) rfl)))
theorem bw_68 : Cond.lays RX "SlideRow" "gone" "I" ∈ sr_big := (List.mem_append_right _ (List.mem_append_left _ (List.mem_of_getElem? (i := 28) rfl)))
theorem bw_69 : Cond.lays RX "SlideRow" "given" "I" ∈ sr_big := (List.mem_append_right _ (List.mem_append_left _ (List.mem_of_getElem? (i := 29) rfl)))
theorem bw_70 : Cond.lays RX "SlideRow" "firstReached" "I" ∈ sr_big := (List.mem_append_right _ (List.mem_append_left _ (List.mem_of_getElem? (i := 30) rfl)))
theorem bw_71 : Cond.lays RX "SlideRow" "lastReached" "I" ∈ sr_big := (List.mem_append_right _ (List.mem_append_left _ (List.mem_of_getElem? (i := 31) rfl)))
theorem bw_72 : Cond.lays RX "SlideRow" "reached" "I" ∈ sr_big := (List.mem_append_right _ (List.mem_append_left _ (List.mem_of_getElem? (i := 32) rfl)))
theorem bw_73 : Cond.arrayClass .int ∈ sr_big := (List.mem_append_right _ (List.mem_append_left _ (List.mem_of_getElem? (i := 33) rfl)))
theorem bw_74 : Cond.methodLink RL 86 yX_slide ∈ sr_big := (List.mem_append_right _ (List.mem_append_left _ (List.mem_of_getElem? (i := 34) rfl)))
theorem bw_75 : Cond.instanceMethod yX_slide ∈ sr_big := (List.mem_append_right _ (List.mem_append_left _ (List.mem_of_getElem? (i := 35) rfl)))
theorem bw_76 : Cond.selects RX yX_slide yX_slide ∈ sr_big := (List.mem_append_right _ (List.mem_append_left _ (List.mem_of_getElem? (i := 36) rfl)))
theorem bw_77 : Cond.code yX_slide bX_slide 2 (some .int) ∈ sr_big := (List.mem_append_right _ (List.mem_append_left _ (List.mem_of_getElem? (i := 37) rfl)))
theorem bw_78 : Cond.methodLink RX 70 yX_chainReached ∈ sr_big := (List.mem_append_right _ (List.mem_append_left _ (List.mem_of_getElem? (i := 38) rfl)))
theorem bw_79 : Cond.instanceMethod yX_chainReached ∈ sr_big := (List.mem_append_right _ (List.mem_append_left _ (List.mem_of_getElem? (i := 39) rfl)))
theorem bw_80 : Cond.code yX_chainReached bX_chainReached 3 none ∈ sr_big := (List.mem_append_right _ (List.mem_append_right _ (List.mem_append_left _ (List.mem_of_getElem? (i := 0) rfl))))
theorem bw_81 : Cond.methodLink RX 138 yX_clearLinks ∈ sr_big := (List.mem_append_right _ (List.mem_append_right _ (List.mem_append_left _ (List.mem_of_getElem? (i := 1) rfl))))
theorem bw_82 : Cond.instanceMethod yX_clearLinks ∈ sr_big := (List.mem_append_right _ (List.mem_append_right _ (List.mem_append_left _ (List.mem_of_getElem? (i := 2) rfl))))
theorem bw_83 : Cond.code yX_clearLinks bX_clearLinks 3 none ∈ sr_big := (List.mem_append_right _ (List.mem_append_right _ (List.mem_append_left _ (List.mem_of_getElem? (i := 3) rfl))))
theorem bw_84 : Cond.methodLink RX 43 yX_write ∈ sr_big := (List.mem_append_right _ (List.mem_append_right _ (List.mem_append_left _ (List.mem_of_getElem? (i := 4) rfl))))
theorem bw_85 : Cond.instanceMethod yX_write ∈ sr_big := (List.mem_append_right _ (List.mem_append_right _ (List.mem_append_left _ (List.mem_of_getElem? (i := 5) rfl))))
theorem bw_86 : Cond.code yX_write bX_write 3 none ∈ sr_big := (List.mem_append_right _ (List.mem_append_right _ (List.mem_append_left _ (List.mem_of_getElem? (i := 6) rfl))))
theorem bw_87 : Cond.methodLink RX 101 yX_sizeOf ∈ sr_big := (List.mem_append_right _ (List.mem_append_right _ (List.mem_append_left _ (List.mem_of_getElem? (i := 7) rfl))))
theorem bw_88 : Cond.instanceMethod yX_sizeOf ∈ sr_big := (List.mem_append_right _ (List.mem_append_right _ (List.mem_append_left _ (List.mem_of_getElem? (i := 8) rfl))))
theorem bw_89 : Cond.code yX_sizeOf bX_sizeOf 3 (some .int) ∈ sr_big := (List.mem_append_right _ (List.mem_append_right _ (List.mem_append_left _ (List.mem_of_getElem? (i := 9) rfl))))
theorem bw_90 : Cond.methodLink RX 60 yX_read ∈ sr_big := (List.mem_append_right _ (List.mem_append_right _ (List.mem_append_left _ (List.mem_of_getElem? (i := 10) rfl))))
theorem bw_91 : Cond.instanceMethod yX_read ∈ sr_big := (List.mem_append_right _ (List.mem_append_right _ (List.mem_append_left _ (List.mem_of_getElem? (i := 11) rfl))))
theorem bw_92 : Cond.code yX_read bX_read 2 (some .int) ∈ sr_big := (List.mem_append_right _ (List.mem_append_right _ (List.mem_append_left _ (List.mem_of_getElem? (i := 12) rfl))))
theorem bw_93 : Cond.methodLink RX 147 yX_reach ∈ sr_big := (List.mem_append_right _ (List.mem_append_right _ (List.mem_append_left _ (List.mem_of_getElem? (i := 13) rfl))))
theorem bw_94 : Cond.instanceMethod yX_reach ∈ sr_big := (List.mem_append_right _ (List.mem_append_right _ (List.mem_append_left _ (List.mem_of_getElem? (i := 14) rfl))))
theorem bw_95 : Cond.code yX_reach bX_reach 2 none ∈ sr_big := (List.mem_append_right _ (List.mem_append_right _ (List.mem_append_left _ (List.mem_of_getElem? (i := 15) rfl))))
theorem bw_96 : Cond.methodLink RX 150 yX_reachFieldsOf ∈ sr_big := (List.mem_append_right _ (List.mem_append_right _ (List.mem_append_left _ (List.mem_of_getElem? (i := 16) rfl))))
theorem bw_97 : Cond.instanceMethod yX_reachFieldsOf ∈ sr_big := (List.mem_append_right _ (List.mem_append_right _ (List.mem_append_left _ (List.mem_of_getElem? (i := 17) rfl))))
theorem bw_98 : Cond.code yX_reachFieldsOf bX_reachFieldsOf 4 none ∈ sr_big := (List.mem_append_right _ (List.mem_append_right _ (List.mem_append_left _ (List.mem_of_getElem? (i := 18) rfl))))
theorem bw_99 : Cond.methodLink RX 122 yX_fieldsOf ∈ sr_big := (List.mem_append_right _ (List.mem_append_right _ (List.mem_append_left _ (List.mem_of_getElem? (i := 19) rfl))))
theorem bw_100 : Cond.instanceMethod yX_fieldsOf ∈ sr_big := (List.mem_append_right _ (List.mem_append_right _ (List.mem_append_left _ (List.mem_of_getElem? (i := 20) rfl))))
theorem bw_101 : Cond.code yX_fieldsOf bX_fieldsOf 2 (some .int) ∈ sr_big := (List.mem_append_right _ (List.mem_append_right _ (List.mem_append_left _ (List.mem_of_getElem? (i := 21) rfl))))
theorem bw_102 : Cond.methodLink RX 73 yX_choosePlaces ∈ sr_big := (List.mem_append_right _ (List.mem_append_right _ (List.mem_append_left _ (List.mem_of_getElem? (i := 22) rfl))))
theorem bw_103 : Cond.instanceMethod yX_choosePlaces ∈ sr_big := (List.mem_append_right _ (List.mem_append_right _ (List.mem_append_left _ (List.mem_of_getElem? (i := 23) rfl))))
theorem bw_104 : Cond.code yX_choosePlaces bX_choosePlaces 5 (some .int) ∈ sr_big := (List.mem_append_right _ (List.mem_append_right _ (List.mem_append_left _ (List.mem_of_getElem? (i := 24) rfl))))
theorem bw_105 : Cond.methodLink RX 77 yX_redirectRoots ∈ sr_big := (List.mem_append_right _ (List.mem_append_right _ (List.mem_append_left _ (List.mem_of_getElem? (i := 25) rfl))))
theorem bw_106 : Cond.instanceMethod yX_redirectRoots ∈ sr_big := (List.mem_append_right _ (List.mem_append_right _ (List.mem_append_left _ (List.mem_of_getElem? (i := 26) rfl))))
theorem bw_107 : Cond.code yX_redirectRoots bX_redirectRoots 2 none ∈ sr_big := (List.mem_append_right _ (List.mem_append_right _ (List.mem_append_left _ (List.mem_of_getElem? (i := 27) rfl))))
theorem bw_108 : Cond.methodLink RX 153 yX_placeOf ∈ sr_big := (List.mem_append_right _ (List.mem_append_right _ (List.mem_append_left _ (List.mem_of_getElem? (i := 28) rfl))))
theorem bw_109 : Cond.instanceMethod yX_placeOf ∈ sr_big := (List.mem_append_right _ (List.mem_append_right _ (List.mem_append_left _ (List.mem_of_getElem? (i := 29) rfl))))
theorem bw_110 : Cond.code yX_placeOf bX_placeOf 2 (some .int) ∈ sr_big := (List.mem_append_right _ (List.mem_append_right _ (List.mem_append_left _ (List.mem_of_getElem? (i := 30) rfl))))
theorem bw_111 : Cond.methodLink RX 80 yX_redirectFields ∈ sr_big := (List.mem_append_right _ (List.mem_append_right _ (List.mem_append_left _ (List.mem_of_getElem? (i := 31) rfl))))
theorem bw_112 : Cond.instanceMethod yX_redirectFields ∈ sr_big := (List.mem_append_right _ (List.mem_append_right _ (List.mem_append_left _ (List.mem_of_getElem? (i := 32) rfl))))
theorem bw_113 : Cond.code yX_redirectFields bX_redirectFields 3 none ∈ sr_big := (List.mem_append_right _ (List.mem_append_right _ (List.mem_append_left _ (List.mem_of_getElem? (i := 33) rfl))))
theorem bw_114 : Cond.methodLink RX 156 yX_redirectFieldsOf ∈ sr_big := (List.mem_append_right _ (List.mem_append_right _ (List.mem_append_left _ (List.mem_of_getElem? (i := 34) rfl))))
theorem bw_115 : Cond.instanceMethod yX_redirectFieldsOf ∈ sr_big := (List.mem_append_right _ (List.mem_append_right _ (List.mem_append_left _ (List.mem_of_getElem? (i := 35) rfl))))
theorem bw_116 : Cond.code yX_redirectFieldsOf bX_redirectFieldsOf 5 none ∈ sr_big := (List.mem_append_right _ (List.mem_append_right _ (List.mem_append_left _ (List.mem_of_getElem? (i := 36) rfl))))
theorem bw_117 : Cond.methodLink RX 83 yX_moveReached ∈ sr_big := (List.mem_append_right _ (List.mem_append_right _ (List.mem_append_left _ (List.mem_of_getElem? (i := 37) rfl))))
theorem bw_118 : Cond.instanceMethod yX_moveReached ∈ sr_big := (List.mem_append_right _ (List.mem_append_right _ (List.mem_append_left _ (List.mem_of_getElem? (i := 38) rfl))))
theorem bw_119 : Cond.code yX_moveReached bX_moveReached 5 none ∈ sr_big := (List.mem_append_right _ (List.mem_append_right _ (List.mem_append_left _ (List.mem_of_getElem? (i := 39) rfl))))
theorem bw_120 : Cond.methodLink RX 159 yX_moveCells ∈ sr_big := (List.mem_append_right _ (List.mem_append_right _ (List.mem_append_right _ (List.mem_append_left _ (List.mem_of_getElem? (i := 0) rfl)))))
theorem bw_121 : Cond.instanceMethod yX_moveCells ∈ sr_big := (List.mem_append_right _ (List.mem_append_right _ (List.mem_append_right _ (List.mem_append_left _ (List.mem_of_getElem? (i := 1) rfl)))))
theorem bw_122 : Cond.code yX_moveCells bX_moveCells 4 none ∈ sr_big := (List.mem_append_right _ (List.mem_append_right _ (List.mem_append_right _ (List.mem_append_left _ (List.mem_of_getElem? (i := 2) rfl)))))
theorem bw_123 : Cond.methodLink RX 132 ⟨"java/lang/System", "arraycopy", "(Ljava/lang/Object;ILjava/lang/Object;II)V"⟩ ∈ sr_big := (List.mem_append_right _ (List.mem_append_right _ (List.mem_append_right _ (List.mem_append_left _ (List.mem_of_getElem? (i := 3) rfl)))))
theorem bw_124 : Cond.static ⟨"java/lang/System", "arraycopy", "(Ljava/lang/Object;ILjava/lang/Object;II)V"⟩ ∈ sr_big := (List.mem_append_right _ (List.mem_append_right _ (List.mem_append_right _ (List.mem_append_left _ (List.mem_of_getElem? (i := 4) rfl)))))
theorem bw_125 : Cond.native ⟨"java/lang/System", "arraycopy", "(Ljava/lang/Object;ILjava/lang/Object;II)V"⟩ ∈ sr_big := (List.mem_append_right _ (List.mem_append_right _ (List.mem_append_right _ (List.mem_append_left _ (List.mem_of_getElem? (i := 5) rfl)))))
theorem bw_126 : Cond.methodLink RL 93 yX_find ∈ sr_big := (List.mem_append_right _ (List.mem_append_right _ (List.mem_append_right _ (List.mem_append_left _ (List.mem_of_getElem? (i := 6) rfl)))))
theorem bw_127 : Cond.instanceMethod yX_find ∈ sr_big := (List.mem_append_right _ (List.mem_append_right _ (List.mem_append_right _ (List.mem_append_left _ (List.mem_of_getElem? (i := 7) rfl)))))
theorem bw_128 : Cond.selects RX yX_find yX_find ∈ sr_big := (List.mem_append_right _ (List.mem_append_right _ (List.mem_append_right _ (List.mem_append_left _ (List.mem_of_getElem? (i := 8) rfl)))))
theorem bw_129 : Cond.code yX_find bX_find 4 (some .int) ∈ sr_big := (List.mem_append_right _ (List.mem_append_right _ (List.mem_append_right _ (List.mem_append_left _ (List.mem_of_getElem? (i := 9) rfl)))))
theorem bw_130 : Cond.methodLink RL 53 yL_space ∈ sr_big := (List.mem_append_right _ (List.mem_append_right _ (List.mem_append_right _ (List.mem_append_left _ (List.mem_of_getElem? (i := 10) rfl)))))
theorem bw_131 : Cond.static yL_space ∈ sr_big := (List.mem_append_right _ (List.mem_append_right _ (List.mem_append_right _ (List.mem_append_left _ (List.mem_of_getElem? (i := 11) rfl)))))
theorem bw_132 : Cond.codeWith yL_space bL_space 4 (some .int) [(0, 9, 12, 13)] ∈ sr_big := (List.mem_append_right _ (List.mem_append_right _ (List.mem_append_right _ (List.mem_append_left _ (List.mem_of_getElem? (i := 12) rfl)))))
theorem bw_133 : Cond.classLink RL 13 "java/lang/IllegalArgumentException" ∈ sr_big := (List.mem_append_right _ (List.mem_append_right _ (List.mem_append_right _ (List.mem_append_left _ (List.mem_of_getElem? (i := 13) rfl)))))
theorem bw_134 : Cond.methodLink RL 7 yX_space ∈ sr_big := (List.mem_append_right _ (List.mem_append_right _ (List.mem_append_right _ (List.mem_append_left _ (List.mem_of_getElem? (i := 14) rfl)))))
theorem bw_135 : Cond.instanceMethod yX_space ∈ sr_big := (List.mem_append_right _ (List.mem_append_right _ (List.mem_append_right _ (List.mem_append_left _ (List.mem_of_getElem? (i := 15) rfl)))))
theorem bw_136 : Cond.selects RX yX_space yX_space ∈ sr_big := (List.mem_append_right _ (List.mem_append_right _ (List.mem_append_right _ (List.mem_append_left _ (List.mem_of_getElem? (i := 16) rfl)))))
theorem bw_137 : Cond.code yX_space bX_space 3 (some .int) ∈ sr_big := (List.mem_append_right _ (List.mem_append_right _ (List.mem_append_right _ (List.mem_append_left _ (List.mem_of_getElem? (i := 17) rfl)))))
theorem bw_138 : Cond.classLink RX 20 "java/lang/IllegalArgumentException" ∈ sr_big := (List.mem_append_right _ (List.mem_append_right _ (List.mem_append_right _ (List.mem_append_left _ (List.mem_of_getElem? (i := 18) rfl)))))
theorem bw_139 : Cond.instantiable "java/lang/IllegalArgumentException" 6 ∈ sr_big := (List.mem_append_right _ (List.mem_append_right _ (List.mem_append_right _ (List.mem_append_left _ (List.mem_of_getElem? (i := 19) rfl)))))
theorem bw_140 : Cond.selects "java/lang/IllegalArgumentException" ⟨"java/lang/Throwable", "fillInStackTrace", "(I)Ljava/lang/Throwable;"⟩ ⟨"java/lang/Throwable", "fillInStackTrace", "(I)Ljava/lang/Throwable;"⟩ ∈ sr_big := (List.mem_append_right _ (List.mem_append_right _ (List.mem_append_right _ (List.mem_append_left _ (List.mem_of_getElem? (i := 20) rfl)))))
theorem bw_141 : Cond.selects "java/lang/IllegalArgumentException" ⟨"java/lang/Throwable", "fillInStackTrace", "()Ljava/lang/Throwable;"⟩ ⟨"java/lang/Throwable", "fillInStackTrace", "()Ljava/lang/Throwable;"⟩ ∈ sr_big := (List.mem_append_right _ (List.mem_append_right _ (List.mem_append_right _ (List.mem_append_left _ (List.mem_of_getElem? (i := 21) rfl)))))
theorem bw_142 : Cond.lays "java/lang/IllegalArgumentException" "java/lang/Throwable" "cause" "Ljava/lang/Throwable;" ∈ sr_big := (List.mem_append_right _ (List.mem_append_right _ (List.mem_append_right _ (List.mem_append_left _ (List.mem_of_getElem? (i := 22) rfl)))))
theorem bw_143 : Cond.lays "java/lang/Throwable" "java/lang/Throwable" "cause" "Ljava/lang/Throwable;" ∈ sr_big := (List.mem_append_right _ (List.mem_append_right _ (List.mem_append_right _ (List.mem_append_left _ (List.mem_of_getElem? (i := 23) rfl)))))
theorem bw_144 : Cond.lays "java/lang/IllegalArgumentException" "java/lang/Throwable" "stackTrace" "[Ljava/lang/StackTraceElement;" ∈ sr_big := (List.mem_append_right _ (List.mem_append_right _ (List.mem_append_right _ (List.mem_append_left _ (List.mem_of_getElem? (i := 24) rfl)))))
theorem bw_145 : Cond.lays "java/lang/Throwable" "java/lang/Throwable" "stackTrace" "[Ljava/lang/StackTraceElement;" ∈ sr_big := (List.mem_append_right _ (List.mem_append_right _ (List.mem_append_right _ (List.mem_append_left _ (List.mem_of_getElem? (i := 25) rfl)))))
theorem bw_146 : Cond.lays "java/lang/IllegalArgumentException" "java/lang/Throwable" "suppressedExceptions" "Ljava/util/List;" ∈ sr_big := (List.mem_append_right _ (List.mem_append_right _ (List.mem_append_right _ (List.mem_append_left _ (List.mem_of_getElem? (i := 26) rfl)))))
theorem bw_147 : Cond.lays "java/lang/Throwable" "java/lang/Throwable" "suppressedExceptions" "Ljava/util/List;" ∈ sr_big := (List.mem_append_right _ (List.mem_append_right _ (List.mem_append_right _ (List.mem_append_left _ (List.mem_of_getElem? (i := 27) rfl)))))
theorem bw_148 : Cond.lays "java/lang/IllegalArgumentException" "java/lang/Throwable" "detailMessage" "Ljava/lang/String;" ∈ sr_big := (List.mem_append_right _ (List.mem_append_right _ (List.mem_append_right _ (List.mem_append_left _ (List.mem_of_getElem? (i := 28) rfl)))))
theorem bw_149 : Cond.lays "java/lang/Throwable" "java/lang/Throwable" "detailMessage" "Ljava/lang/String;" ∈ sr_big := (List.mem_append_right _ (List.mem_append_right _ (List.mem_append_right _ (List.mem_append_left _ (List.mem_of_getElem? (i := 29) rfl)))))
theorem bw_150 : Cond.lays "java/lang/IllegalArgumentException" "java/lang/Throwable" "backtrace" "Ljava/lang/Object;" ∈ sr_big := (List.mem_append_right _ (List.mem_append_right _ (List.mem_append_right _ (List.mem_append_left _ (List.mem_of_getElem? (i := 30) rfl)))))
theorem bw_151 : Cond.lays "java/lang/Throwable" "java/lang/Throwable" "backtrace" "Ljava/lang/Object;" ∈ sr_big := (List.mem_append_right _ (List.mem_append_right _ (List.mem_append_right _ (List.mem_append_left _ (List.mem_of_getElem? (i := 31) rfl)))))
theorem bw_152 : Cond.fieldLink "java/lang/Throwable" 198 "java/lang/Throwable" "backtrace" "Ljava/lang/Object;" ∈ sr_big := (List.mem_append_right _ (List.mem_append_right _ (List.mem_append_right _ (List.mem_append_left _ (List.mem_of_getElem? (i := 32) rfl)))))
theorem bw_153 : Cond.instanceMethod ⟨"java/lang/Throwable", "<init>", "()V"⟩ ∈ sr_big := (List.mem_append_right _ (List.mem_append_right _ (List.mem_append_right _ (List.mem_append_left _ (List.mem_of_getElem? (i := 33) rfl)))))
theorem bw_154 : Cond.code ⟨"java/lang/Throwable", "<init>", "()V"⟩ prog_9_method_1_code 1 none ∈ sr_big := (List.mem_append_right _ (List.mem_append_right _ (List.mem_append_right _ (List.mem_append_left _ (List.mem_of_getElem? (i := 34) rfl)))))
theorem bw_155 : Cond.methodLink "java/lang/Throwable" 1 ⟨"java/lang/Object", "<init>", "()V"⟩ ∈ sr_big := (List.mem_append_right _ (List.mem_append_right _ (List.mem_append_right _ (List.mem_append_left _ (List.mem_of_getElem? (i := 35) rfl)))))
theorem bw_156 : Cond.fieldLink "java/lang/Throwable" 13 "java/lang/Throwable" "UNASSIGNED_STACK" "[Ljava/lang/StackTraceElement;" ∈ sr_big := (List.mem_append_right _ (List.mem_append_right _ (List.mem_append_right _ (List.mem_append_left _ (List.mem_of_getElem? (i := 36) rfl)))))
theorem bw_157 : Cond.fieldLink "java/lang/Throwable" 20 "java/lang/Throwable" "SUPPRESSED_SENTINEL" "Ljava/util/List;" ∈ sr_big := (List.mem_append_right _ (List.mem_append_right _ (List.mem_append_right _ (List.mem_append_left _ (List.mem_of_getElem? (i := 37) rfl)))))
theorem bw_158 : Cond.methodLink "java/lang/Throwable" 27 ⟨"java/lang/Throwable", "fillInStackTrace", "()Ljava/lang/Throwable;"⟩ ∈ sr_big := (List.mem_append_right _ (List.mem_append_right _ (List.mem_append_right _ (List.mem_append_left _ (List.mem_of_getElem? (i := 38) rfl)))))
theorem bw_159 : Cond.instanceMethod ⟨"java/lang/Throwable", "fillInStackTrace", "()Ljava/lang/Throwable;"⟩ ∈ sr_big := (List.mem_append_right _ (List.mem_append_right _ (List.mem_append_right _ (List.mem_append_left _ (List.mem_of_getElem? (i := 39) rfl)))))
theorem bw_160 : Cond.selects "java/util/NoSuchElementException" ⟨"java/lang/Throwable", "fillInStackTrace", "()Ljava/lang/Throwable;"⟩ ⟨"java/lang/Throwable", "fillInStackTrace", "()Ljava/lang/Throwable;"⟩ ∈ sr_big := (List.mem_append_right _ (List.mem_append_right _ (List.mem_append_right _ (List.mem_append_right _ (List.mem_append_left _ (List.mem_of_getElem? (i := 0) rfl))))))
theorem bw_161 : Cond.methodLink "java/lang/Throwable" 202 ⟨"java/lang/Throwable", "fillInStackTrace", "(I)Ljava/lang/Throwable;"⟩ ∈ sr_big := (List.mem_append_right _ (List.mem_append_right _ (List.mem_append_right _ (List.mem_append_right _ (List.mem_append_left _ (List.mem_of_getElem? (i := 1) rfl))))))
theorem bw_162 : Cond.instanceMethod ⟨"java/lang/Throwable", "fillInStackTrace", "(I)Ljava/lang/Throwable;"⟩ ∈ sr_big := (List.mem_append_right _ (List.mem_append_right _ (List.mem_append_right _ (List.mem_append_right _ (List.mem_append_left _ (List.mem_of_getElem? (i := 2) rfl))))))
theorem bw_163 : Cond.instantiable "java/lang/Throwable" 6 ∈ sr_big := (List.mem_append_right _ (List.mem_append_right _ (List.mem_append_right _ (List.mem_append_right _ (List.mem_append_left _ (List.mem_of_getElem? (i := 3) rfl))))))
theorem bw_164 : Cond.native ⟨"java/lang/Throwable", "fillInStackTrace", "(I)Ljava/lang/Throwable;"⟩ ∈ sr_big := (List.mem_append_right _ (List.mem_append_right _ (List.mem_append_right _ (List.mem_append_right _ (List.mem_append_left _ (List.mem_of_getElem? (i := 4) rfl))))))
theorem bw_165 : Cond.methodLink RX 24 ⟨"java/lang/IllegalArgumentException", "<init>", "(Ljava/lang/String;)V"⟩ ∈ sr_big := (List.mem_append_right _ (List.mem_append_right _ (List.mem_append_right _ (List.mem_append_right _ (List.mem_append_left _ (List.mem_of_getElem? (i := 5) rfl))))))
theorem bw_166 : Cond.instanceMethod ⟨"java/lang/IllegalArgumentException", "<init>", "(Ljava/lang/String;)V"⟩ ∈ sr_big := (List.mem_append_right _ (List.mem_append_right _ (List.mem_append_right _ (List.mem_append_right _ (List.mem_append_left _ (List.mem_of_getElem? (i := 6) rfl))))))
theorem bw_167 : Cond.code ⟨"java/lang/IllegalArgumentException", "<init>", "(Ljava/lang/String;)V"⟩ prog_5_method_2_code 2 none ∈ sr_big := (List.mem_append_right _ (List.mem_append_right _ (List.mem_append_right _ (List.mem_append_right _ (List.mem_append_left _ (List.mem_of_getElem? (i := 7) rfl))))))
theorem bw_168 : Cond.methodLink "java/lang/IllegalArgumentException" 7 ⟨"java/lang/RuntimeException", "<init>", "(Ljava/lang/String;)V"⟩ ∈ sr_big := (List.mem_append_right _ (List.mem_append_right _ (List.mem_append_right _ (List.mem_append_right _ (List.mem_append_left _ (List.mem_of_getElem? (i := 8) rfl))))))
theorem bw_169 : Cond.instanceMethod ⟨"java/lang/RuntimeException", "<init>", "(Ljava/lang/String;)V"⟩ ∈ sr_big := (List.mem_append_right _ (List.mem_append_right _ (List.mem_append_right _ (List.mem_append_right _ (List.mem_append_left _ (List.mem_of_getElem? (i := 9) rfl))))))
theorem bw_170 : Cond.code ⟨"java/lang/RuntimeException", "<init>", "(Ljava/lang/String;)V"⟩ prog_6_method_2_code 2 none ∈ sr_big := (List.mem_append_right _ (List.mem_append_right _ (List.mem_append_right _ (List.mem_append_right _ (List.mem_append_left _ (List.mem_of_getElem? (i := 10) rfl))))))
theorem bw_171 : Cond.methodLink "java/lang/RuntimeException" 7 ⟨"java/lang/Exception", "<init>", "(Ljava/lang/String;)V"⟩ ∈ sr_big := (List.mem_append_right _ (List.mem_append_right _ (List.mem_append_right _ (List.mem_append_right _ (List.mem_append_left _ (List.mem_of_getElem? (i := 11) rfl))))))
theorem bw_172 : Cond.instanceMethod ⟨"java/lang/Exception", "<init>", "(Ljava/lang/String;)V"⟩ ∈ sr_big := (List.mem_append_right _ (List.mem_append_right _ (List.mem_append_right _ (List.mem_append_right _ (List.mem_append_left _ (List.mem_of_getElem? (i := 12) rfl))))))
theorem bw_173 : Cond.code ⟨"java/lang/Exception", "<init>", "(Ljava/lang/String;)V"⟩ prog_4_method_2_code 2 none ∈ sr_big := (List.mem_append_right _ (List.mem_append_right _ (List.mem_append_right _ (List.mem_append_right _ (List.mem_append_left _ (List.mem_of_getElem? (i := 13) rfl))))))
theorem bw_174 : Cond.methodLink "java/lang/Exception" 7 ⟨"java/lang/Throwable", "<init>", "(Ljava/lang/String;)V"⟩ ∈ sr_big := (List.mem_append_right _ (List.mem_append_right _ (List.mem_append_right _ (List.mem_append_right _ (List.mem_append_left _ (List.mem_of_getElem? (i := 14) rfl))))))
theorem bw_175 : Cond.instanceMethod ⟨"java/lang/Throwable", "<init>", "(Ljava/lang/String;)V"⟩ ∈ sr_big := (List.mem_append_right _ (List.mem_append_right _ (List.mem_append_right _ (List.mem_append_right _ (List.mem_append_left _ (List.mem_of_getElem? (i := 15) rfl))))))
theorem bw_176 : Cond.code ⟨"java/lang/Throwable", "<init>", "(Ljava/lang/String;)V"⟩ prog_9_method_2_code 2 none ∈ sr_big := (List.mem_append_right _ (List.mem_append_right _ (List.mem_append_right _ (List.mem_append_right _ (List.mem_append_left _ (List.mem_of_getElem? (i := 16) rfl))))))
theorem bw_177 : Cond.fieldLink "java/lang/Throwable" 31 "java/lang/Throwable" "detailMessage" "Ljava/lang/String;" ∈ sr_big := (List.mem_append_right _ (List.mem_append_right _ (List.mem_append_right _ (List.mem_append_right _ (List.mem_append_left _ (List.mem_of_getElem? (i := 17) rfl))))))
theorem bw_178 : Cond.fieldLink "java/lang/Throwable" 7 "java/lang/Throwable" "cause" "Ljava/lang/Throwable;" ∈ sr_big := (List.mem_append_right _ (List.mem_append_right _ (List.mem_append_right _ (List.mem_append_right _ (List.mem_append_left _ (List.mem_of_getElem? (i := 18) rfl))))))
theorem bw_179 : Cond.fieldLink "java/lang/Throwable" 17 "java/lang/Throwable" "stackTrace" "[Ljava/lang/StackTraceElement;" ∈ sr_big := (List.mem_append_right _ (List.mem_append_right _ (List.mem_append_right _ (List.mem_append_right _ (List.mem_append_left _ (List.mem_of_getElem? (i := 19) rfl))))))
theorem bw_180 : Cond.fieldLink "java/lang/Throwable" 24 "java/lang/Throwable" "suppressedExceptions" "Ljava/util/List;" ∈ sr_big := (List.mem_append_right _ (List.mem_append_right _ (List.mem_append_right _ (List.mem_append_right _ (List.mem_append_left _ (List.mem_of_getElem? (i := 20) rfl))))))
theorem bw_181 : Cond.lays "java/lang/IllegalArgumentException" "java/lang/Throwable" "depth" "I" ∈ sr_big := (List.mem_append_right _ (List.mem_append_right _ (List.mem_append_right _ (List.mem_append_right _ (List.mem_append_left _ (List.mem_of_getElem? (i := 21) rfl))))))
theorem bw_182 : Cond.arrayClass .byte ∈ sr_big := (List.mem_append_right _ (List.mem_append_right _ (List.mem_append_right _ (List.mem_append_right _ (List.mem_append_left _ (List.mem_of_getElem? (i := 22) rfl))))))
theorem bw_183 : Cond.methodLink RX 27 yX_forgetAll ∈ sr_big := (List.mem_append_right _ (List.mem_append_right _ (List.mem_append_right _ (List.mem_append_right _ (List.mem_append_left _ (List.mem_of_getElem? (i := 23) rfl))))))
theorem bw_184 : Cond.instanceMethod yX_forgetAll ∈ sr_big := (List.mem_append_right _ (List.mem_append_right _ (List.mem_append_right _ (List.mem_append_right _ (List.mem_append_left _ (List.mem_of_getElem? (i := 24) rfl))))))
theorem bw_185 : Cond.code yX_forgetAll bX_forgetAll 1 none ∈ sr_big := (List.mem_append_right _ (List.mem_append_right _ (List.mem_append_right _ (List.mem_append_right _ (List.mem_append_left _ (List.mem_of_getElem? (i := 25) rfl))))))
theorem bw_186 : Cond.methodLink RX 106 yJ_fill ∈ sr_big := (List.mem_append_right _ (List.mem_append_right _ (List.mem_append_right _ (List.mem_append_right _ (List.mem_append_left _ (List.mem_of_getElem? (i := 26) rfl))))))
theorem bw_187 : Cond.static yJ_fill ∈ sr_big := (List.mem_append_right _ (List.mem_append_right _ (List.mem_append_right _ (List.mem_append_right _ (List.mem_append_left _ (List.mem_of_getElem? (i := 27) rfl))))))
theorem bw_188 : Cond.code yJ_fill bJ_fill 4 none ∈ sr_big := (List.mem_append_right _ (List.mem_append_right _ (List.mem_append_right _ (List.mem_append_right _ (List.mem_append_left _ (List.mem_of_getElem? (i := 28) rfl))))))
theorem bw_189 : Cond.methodLink RL 63 yL_make ∈ sr_big := (List.mem_append_right _ (List.mem_append_right _ (List.mem_append_right _ (List.mem_append_right _ (List.mem_append_left _ (List.mem_of_getElem? (i := 29) rfl))))))
theorem bw_190 : Cond.static yL_make ∈ sr_big := (List.mem_append_right _ (List.mem_append_right _ (List.mem_append_right _ (List.mem_append_right _ (List.mem_append_left _ (List.mem_of_getElem? (i := 30) rfl))))))
theorem bw_191 : Cond.codeWith yL_make bL_make 5 (some .int) [(0, 10, 13, 13)] ∈ sr_big := (List.mem_append_right _ (List.mem_append_right _ (List.mem_append_right _ (List.mem_append_right _ (List.mem_append_left _ (List.mem_of_getElem? (i := 31) rfl))))))
theorem bw_192 : Cond.methodLink RL 15 yX_make ∈ sr_big := (List.mem_append_right _ (List.mem_append_right _ (List.mem_append_right _ (List.mem_append_right _ (List.mem_append_left _ (List.mem_of_getElem? (i := 32) rfl))))))
theorem bw_193 : Cond.instanceMethod yX_make ∈ sr_big := (List.mem_append_right _ (List.mem_append_right _ (List.mem_append_right _ (List.mem_append_right _ (List.mem_append_left _ (List.mem_of_getElem? (i := 33) rfl))))))
theorem bw_194 : Cond.selects RX yX_make yX_make ∈ sr_big := (List.mem_append_right _ (List.mem_append_right _ (List.mem_append_right _ (List.mem_append_right _ (List.mem_append_left _ (List.mem_of_getElem? (i := 34) rfl))))))
theorem bw_195 : Cond.code yX_make bX_make 5 (some .int) ∈ sr_big := (List.mem_append_right _ (List.mem_append_right _ (List.mem_append_right _ (List.mem_append_right _ (List.mem_append_left _ (List.mem_of_getElem? (i := 35) rfl))))))
theorem bw_196 : Cond.methodLink RX 30 yX_isPartCount ∈ sr_big := (List.mem_append_right _ (List.mem_append_right _ (List.mem_append_right _ (List.mem_append_right _ (List.mem_append_left _ (List.mem_of_getElem? (i := 36) rfl))))))
theorem bw_197 : Cond.static yX_isPartCount ∈ sr_big := (List.mem_append_right _ (List.mem_append_right _ (List.mem_append_right _ (List.mem_append_right _ (List.mem_append_left _ (List.mem_of_getElem? (i := 37) rfl))))))
theorem bw_198 : Cond.code yX_isPartCount bX_isPartCount 1 (some .boolean) ∈ sr_big := (List.mem_append_right _ (List.mem_append_right _ (List.mem_append_right _ (List.mem_append_right _ (List.mem_append_left _ (List.mem_of_getElem? (i := 38) rfl))))))
theorem bw_199 : Cond.methodLink RX 39 yX_clearCells ∈ sr_big := (List.mem_append_right _ (List.mem_append_right _ (List.mem_append_right _ (List.mem_append_right _ (List.mem_append_left _ (List.mem_of_getElem? (i := 39) rfl))))))
theorem bw_200 : Cond.instanceMethod yX_clearCells ∈ sr_big := (List.mem_append_right _ (List.mem_append_right _ (List.mem_append_right _ (List.mem_append_right _ (List.mem_append_right _ (List.mem_append_left _ (List.mem_of_getElem? (i := 0) rfl)))))))
theorem bw_201 : Cond.code yX_clearCells bX_clearCells 4 none ∈ sr_big := (List.mem_append_right _ (List.mem_append_right _ (List.mem_append_right _ (List.mem_append_right _ (List.mem_append_right _ (List.mem_append_left _ (List.mem_of_getElem? (i := 1) rfl)))))))
theorem bw_202 : Cond.methodLink RL 67 yL_set ∈ sr_big := (List.mem_append_right _ (List.mem_append_right _ (List.mem_append_right _ (List.mem_append_right _ (List.mem_append_right _ (List.mem_append_left _ (List.mem_of_getElem? (i := 2) rfl)))))))
theorem bw_203 : Cond.static yL_set ∈ sr_big := (List.mem_append_right _ (List.mem_append_right _ (List.mem_append_right _ (List.mem_append_right _ (List.mem_append_right _ (List.mem_append_left _ (List.mem_of_getElem? (i := 3) rfl)))))))
theorem bw_204 : Cond.codeWith yL_set bL_set 6 (some .int) [(0, 12, 15, 23)] ∈ sr_big := (List.mem_append_right _ (List.mem_append_right _ (List.mem_append_right _ (List.mem_append_right _ (List.mem_append_right _ (List.mem_append_left _ (List.mem_of_getElem? (i := 4) rfl)))))))
theorem bw_205 : Cond.classLink RL 23 "java/util/NoSuchElementException" ∈ sr_big := (List.mem_append_right _ (List.mem_append_right _ (List.mem_append_right _ (List.mem_append_right _ (List.mem_append_right _ (List.mem_append_left _ (List.mem_of_getElem? (i := 5) rfl)))))))
theorem bw_206 : Cond.methodLink RL 19 yX_set ∈ sr_big := (List.mem_append_right _ (List.mem_append_right _ (List.mem_append_right _ (List.mem_append_right _ (List.mem_append_right _ (List.mem_append_left _ (List.mem_of_getElem? (i := 6) rfl)))))))
theorem bw_207 : Cond.instanceMethod yX_set ∈ sr_big := (List.mem_append_right _ (List.mem_append_right _ (List.mem_append_right _ (List.mem_append_right _ (List.mem_append_right _ (List.mem_append_left _ (List.mem_of_getElem? (i := 7) rfl)))))))
theorem bw_208 : Cond.selects RX yX_set yX_set ∈ sr_big := (List.mem_append_right _ (List.mem_append_right _ (List.mem_append_right _ (List.mem_append_right _ (List.mem_append_right _ (List.mem_append_left _ (List.mem_of_getElem? (i := 8) rfl)))))))
theorem bw_209 : Cond.code yX_set bX_set 5 (some .int) ∈ sr_big := (List.mem_append_right _ (List.mem_append_right _ (List.mem_append_right _ (List.mem_append_right _ (List.mem_append_right _ (List.mem_append_left _ (List.mem_of_getElem? (i := 9) rfl)))))))
theorem bw_210 : Cond.methodLink RX 49 yX_fieldCell ∈ sr_big := (List.mem_append_right _ (List.mem_append_right _ (List.mem_append_right _ (List.mem_append_right _ (List.mem_append_right _ (List.mem_append_left _ (List.mem_of_getElem? (i := 10) rfl)))))))
theorem bw_211 : Cond.instanceMethod yX_fieldCell ∈ sr_big := (List.mem_append_right _ (List.mem_append_right _ (List.mem_append_right _ (List.mem_append_right _ (List.mem_append_right _ (List.mem_append_left _ (List.mem_of_getElem? (i := 11) rfl)))))))
theorem bw_212 : Cond.code yX_fieldCell bX_fieldCell 3 (some .int) ∈ sr_big := (List.mem_append_right _ (List.mem_append_right _ (List.mem_append_right _ (List.mem_append_right _ (List.mem_append_right _ (List.mem_append_left _ (List.mem_of_getElem? (i := 12) rfl)))))))
theorem bw_213 : Cond.methodLink RX 95 yX_needObject ∈ sr_big := (List.mem_append_right _ (List.mem_append_right _ (List.mem_append_right _ (List.mem_append_right _ (List.mem_append_right _ (List.mem_append_left _ (List.mem_of_getElem? (i := 13) rfl)))))))
theorem bw_214 : Cond.instanceMethod yX_needObject ∈ sr_big := (List.mem_append_right _ (List.mem_append_right _ (List.mem_append_right _ (List.mem_append_right _ (List.mem_append_right _ (List.mem_append_left _ (List.mem_of_getElem? (i := 14) rfl)))))))
theorem bw_215 : Cond.code yX_needObject bX_needObject 2 none ∈ sr_big := (List.mem_append_right _ (List.mem_append_right _ (List.mem_append_right _ (List.mem_append_right _ (List.mem_append_right _ (List.mem_append_left _ (List.mem_of_getElem? (i := 15) rfl)))))))
theorem bw_216 : Cond.methodLink RX 117 yX_isObject ∈ sr_big := (List.mem_append_right _ (List.mem_append_right _ (List.mem_append_right _ (List.mem_append_right _ (List.mem_append_right _ (List.mem_append_left _ (List.mem_of_getElem? (i := 16) rfl)))))))
theorem bw_217 : Cond.instanceMethod yX_isObject ∈ sr_big := (List.mem_append_right _ (List.mem_append_right _ (List.mem_append_right _ (List.mem_append_right _ (List.mem_append_right _ (List.mem_append_left _ (List.mem_of_getElem? (i := 17) rfl)))))))
theorem bw_218 : Cond.code yX_isObject bX_isObject 4 (some .boolean) ∈ sr_big := (List.mem_append_right _ (List.mem_append_right _ (List.mem_append_right _ (List.mem_append_right _ (List.mem_append_right _ (List.mem_append_left _ (List.mem_of_getElem? (i := 18) rfl)))))))
theorem bw_219 : Cond.classLink RX 112 "java/util/NoSuchElementException" ∈ sr_big := (List.mem_append_right _ (List.mem_append_right _ (List.mem_append_right _ (List.mem_append_right _ (List.mem_append_right _ (List.mem_append_left _ (List.mem_of_getElem? (i := 19) rfl)))))))
theorem bw_220 : Cond.instantiable "java/util/NoSuchElementException" 6 ∈ sr_big := (List.mem_append_right _ (List.mem_append_right _ (List.mem_append_right _ (List.mem_append_right _ (List.mem_append_right _ (List.mem_append_left _ (List.mem_of_getElem? (i := 20) rfl)))))))
theorem bw_221 : Cond.selects "java/util/NoSuchElementException" ⟨"java/lang/Throwable", "fillInStackTrace", "(I)Ljava/lang/Throwable;"⟩ ⟨"java/lang/Throwable", "fillInStackTrace", "(I)Ljava/lang/Throwable;"⟩ ∈ sr_big := (List.mem_append_right _ (List.mem_append_right _ (List.mem_append_right _ (List.mem_append_right _ (List.mem_append_right _ (List.mem_append_left _ (List.mem_of_getElem? (i := 21) rfl)))))))
theorem bw_222 : Cond.lays "java/util/NoSuchElementException" "java/lang/Throwable" "cause" "Ljava/lang/Throwable;" ∈ sr_big := (List.mem_append_right _ (List.mem_append_right _ (List.mem_append_right _ (List.mem_append_right _ (List.mem_append_right _ (List.mem_append_left _ (List.mem_of_getElem? (i := 22) rfl)))))))
theorem bw_223 : Cond.lays "java/util/NoSuchElementException" "java/lang/Throwable" "stackTrace" "[Ljava/lang/StackTraceElement;" ∈ sr_big := (List.mem_append_right _ (List.mem_append_right _ (List.mem_append_right _ (List.mem_append_right _ (List.mem_append_right _ (List.mem_append_left _ (List.mem_of_getElem? (i := 23) rfl)))))))
theorem bw_224 : Cond.lays "java/util/NoSuchElementException" "java/lang/Throwable" "suppressedExceptions" "Ljava/util/List;" ∈ sr_big := (List.mem_append_right _ (List.mem_append_right _ (List.mem_append_right _ (List.mem_append_right _ (List.mem_append_right _ (List.mem_append_left _ (List.mem_of_getElem? (i := 24) rfl)))))))
theorem bw_225 : Cond.lays "java/util/NoSuchElementException" "java/lang/Throwable" "detailMessage" "Ljava/lang/String;" ∈ sr_big := (List.mem_append_right _ (List.mem_append_right _ (List.mem_append_right _ (List.mem_append_right _ (List.mem_append_right _ (List.mem_append_left _ (List.mem_of_getElem? (i := 25) rfl)))))))
theorem bw_226 : Cond.lays "java/util/NoSuchElementException" "java/lang/Throwable" "backtrace" "Ljava/lang/Object;" ∈ sr_big := (List.mem_append_right _ (List.mem_append_right _ (List.mem_append_right _ (List.mem_append_right _ (List.mem_append_right _ (List.mem_append_left _ (List.mem_of_getElem? (i := 26) rfl)))))))
theorem bw_227 : Cond.methodLink RX 116 ⟨"java/util/NoSuchElementException", "<init>", "(Ljava/lang/String;)V"⟩ ∈ sr_big := (List.mem_append_right _ (List.mem_append_right _ (List.mem_append_right _ (List.mem_append_right _ (List.mem_append_right _ (List.mem_append_left _ (List.mem_of_getElem? (i := 27) rfl)))))))
theorem bw_228 : Cond.instanceMethod ⟨"java/util/NoSuchElementException", "<init>", "(Ljava/lang/String;)V"⟩ ∈ sr_big := (List.mem_append_right _ (List.mem_append_right _ (List.mem_append_right _ (List.mem_append_right _ (List.mem_append_right _ (List.mem_append_left _ (List.mem_of_getElem? (i := 28) rfl)))))))
theorem bw_229 : Cond.code ⟨"java/util/NoSuchElementException", "<init>", "(Ljava/lang/String;)V"⟩ prog_11_method_4_code 2 none ∈ sr_big := (List.mem_append_right _ (List.mem_append_right _ (List.mem_append_right _ (List.mem_append_right _ (List.mem_append_right _ (List.mem_append_left _ (List.mem_of_getElem? (i := 29) rfl)))))))
theorem bw_230 : Cond.methodLink "java/util/NoSuchElementException" 13 ⟨"java/lang/RuntimeException", "<init>", "(Ljava/lang/String;)V"⟩ ∈ sr_big := (List.mem_append_right _ (List.mem_append_right _ (List.mem_append_right _ (List.mem_append_right _ (List.mem_append_right _ (List.mem_append_left _ (List.mem_of_getElem? (i := 30) rfl)))))))
theorem bw_231 : Cond.lays "java/util/NoSuchElementException" "java/lang/Throwable" "depth" "I" ∈ sr_big := (List.mem_append_right _ (List.mem_append_right _ (List.mem_append_right _ (List.mem_append_right _ (List.mem_append_right _ (List.mem_append_left _ (List.mem_of_getElem? (i := 31) rfl)))))))
theorem bw_232 : Cond.methodLink RX 53 yX_needObjectOrNothing ∈ sr_big := (List.mem_append_right _ (List.mem_append_right _ (List.mem_append_right _ (List.mem_append_right _ (List.mem_append_right _ (List.mem_append_left _ (List.mem_of_getElem? (i := 32) rfl)))))))
theorem bw_233 : Cond.instanceMethod yX_needObjectOrNothing ∈ sr_big := (List.mem_append_right _ (List.mem_append_right _ (List.mem_append_right _ (List.mem_append_right _ (List.mem_append_right _ (List.mem_append_left _ (List.mem_of_getElem? (i := 33) rfl)))))))
theorem bw_234 : Cond.code yX_needObjectOrNothing bX_needObjectOrNothing 2 none ∈ sr_big := (List.mem_append_right _ (List.mem_append_right _ (List.mem_append_right _ (List.mem_append_right _ (List.mem_append_right _ (List.mem_append_left _ (List.mem_of_getElem? (i := 34) rfl)))))))
theorem bw_235 : Cond.methodLink RX 57 yX_replace ∈ sr_big := (List.mem_append_right _ (List.mem_append_right _ (List.mem_append_right _ (List.mem_append_right _ (List.mem_append_right _ (List.mem_append_left _ (List.mem_of_getElem? (i := 35) rfl)))))))
theorem bw_236 : Cond.instanceMethod yX_replace ∈ sr_big := (List.mem_append_right _ (List.mem_append_right _ (List.mem_append_right _ (List.mem_append_right _ (List.mem_append_right _ (List.mem_append_left _ (List.mem_of_getElem? (i := 36) rfl)))))))
theorem bw_237 : Cond.code yX_replace bX_replace 4 (some .int) ∈ sr_big := (List.mem_append_right _ (List.mem_append_right _ (List.mem_append_right _ (List.mem_append_right _ (List.mem_append_right _ (List.mem_append_left _ (List.mem_of_getElem? (i := 37) rfl)))))))
theorem bw_238 : Cond.methodLink RL 71 yL_get ∈ sr_big := (List.mem_append_right _ (List.mem_append_right _ (List.mem_append_right _ (List.mem_append_right _ (List.mem_append_right _ (List.mem_append_left _ (List.mem_of_getElem? (i := 38) rfl)))))))
theorem bw_239 : Cond.static yL_get ∈ sr_big := (List.mem_append_right _ (List.mem_append_right _ (List.mem_append_right _ (List.mem_append_right _ (List.mem_append_right _ (List.mem_append_left _ (List.mem_of_getElem? (i := 39) rfl)))))))
theorem bw_240 : Cond.codeWith yL_get bL_get 5 (some .int) [(0, 10, 13, 23)] ∈ sr_big := (List.mem_append_right _ (List.mem_append_right _ (List.mem_append_right _ (List.mem_append_right _ (List.mem_append_right _ (List.mem_append_right _ (List.mem_append_left _ (List.mem_of_getElem? (i := 0) rfl))))))))
theorem bw_241 : Cond.methodLink RL 25 yX_get ∈ sr_big := (List.mem_append_right _ (List.mem_append_right _ (List.mem_append_right _ (List.mem_append_right _ (List.mem_append_right _ (List.mem_append_right _ (List.mem_append_left _ (List.mem_of_getElem? (i := 1) rfl))))))))
theorem bw_242 : Cond.instanceMethod yX_get ∈ sr_big := (List.mem_append_right _ (List.mem_append_right _ (List.mem_append_right _ (List.mem_append_right _ (List.mem_append_right _ (List.mem_append_right _ (List.mem_append_left _ (List.mem_of_getElem? (i := 2) rfl))))))))
theorem bw_243 : Cond.selects RX yX_get yX_get ∈ sr_big := (List.mem_append_right _ (List.mem_append_right _ (List.mem_append_right _ (List.mem_append_right _ (List.mem_append_right _ (List.mem_append_right _ (List.mem_append_left _ (List.mem_of_getElem? (i := 3) rfl))))))))
theorem bw_244 : Cond.code yX_get bX_get 3 (some .int) ∈ sr_big := (List.mem_append_right _ (List.mem_append_right _ (List.mem_append_right _ (List.mem_append_right _ (List.mem_append_right _ (List.mem_append_right _ (List.mem_append_left _ (List.mem_of_getElem? (i := 4) rfl))))))))
theorem bw_245 : Cond.methodLink RL 74 yL_put ∈ sr_big := (List.mem_append_right _ (List.mem_append_right _ (List.mem_append_right _ (List.mem_append_right _ (List.mem_append_right _ (List.mem_append_right _ (List.mem_append_left _ (List.mem_of_getElem? (i := 5) rfl))))))))
theorem bw_246 : Cond.static yL_put ∈ sr_big := (List.mem_append_right _ (List.mem_append_right _ (List.mem_append_right _ (List.mem_append_right _ (List.mem_append_right _ (List.mem_append_right _ (List.mem_append_left _ (List.mem_of_getElem? (i := 6) rfl))))))))
theorem bw_247 : Cond.codeWith yL_put bL_put 6 (some .int) [(0, 12, 15, 23)] ∈ sr_big := (List.mem_append_right _ (List.mem_append_right _ (List.mem_append_right _ (List.mem_append_right _ (List.mem_append_right _ (List.mem_append_right _ (List.mem_append_left _ (List.mem_of_getElem? (i := 7) rfl))))))))
theorem bw_248 : Cond.methodLink RL 28 yX_put ∈ sr_big := (List.mem_append_right _ (List.mem_append_right _ (List.mem_append_right _ (List.mem_append_right _ (List.mem_append_right _ (List.mem_append_right _ (List.mem_append_left _ (List.mem_of_getElem? (i := 8) rfl))))))))
theorem bw_249 : Cond.instanceMethod yX_put ∈ sr_big := (List.mem_append_right _ (List.mem_append_right _ (List.mem_append_right _ (List.mem_append_right _ (List.mem_append_right _ (List.mem_append_right _ (List.mem_append_left _ (List.mem_of_getElem? (i := 9) rfl))))))))
theorem bw_250 : Cond.selects RX yX_put yX_put ∈ sr_big := (List.mem_append_right _ (List.mem_append_right _ (List.mem_append_right _ (List.mem_append_right _ (List.mem_append_right _ (List.mem_append_right _ (List.mem_append_left _ (List.mem_of_getElem? (i := 10) rfl))))))))
theorem bw_251 : Cond.code yX_put bX_put 4 (some .int) ∈ sr_big := (List.mem_append_right _ (List.mem_append_right _ (List.mem_append_right _ (List.mem_append_right _ (List.mem_append_right _ (List.mem_append_right _ (List.mem_append_left _ (List.mem_of_getElem? (i := 11) rfl))))))))
theorem bw_252 : Cond.methodLink RX 64 yX_wordCell ∈ sr_big := (List.mem_append_right _ (List.mem_append_right _ (List.mem_append_right _ (List.mem_append_right _ (List.mem_append_right _ (List.mem_append_right _ (List.mem_append_left _ (List.mem_of_getElem? (i := 12) rfl))))))))
theorem bw_253 : Cond.instanceMethod yX_wordCell ∈ sr_big := (List.mem_append_right _ (List.mem_append_right _ (List.mem_append_right _ (List.mem_append_right _ (List.mem_append_right _ (List.mem_append_right _ (List.mem_append_left _ (List.mem_of_getElem? (i := 13) rfl))))))))
theorem bw_254 : Cond.code yX_wordCell bX_wordCell 3 (some .int) ∈ sr_big := (List.mem_append_right _ (List.mem_append_right _ (List.mem_append_right _ (List.mem_append_right _ (List.mem_append_right _ (List.mem_append_right _ (List.mem_append_left _ (List.mem_of_getElem? (i := 14) rfl))))))))
theorem bw_255 : Cond.methodLink RX 127 yX_wordsOf ∈ sr_big := (List.mem_append_right _ (List.mem_append_right _ (List.mem_append_right _ (List.mem_append_right _ (List.mem_append_right _ (List.mem_append_right _ (List.mem_append_left _ (List.mem_of_getElem? (i := 15) rfl))))))))
theorem bw_256 : Cond.instanceMethod yX_wordsOf ∈ sr_big := (List.mem_append_right _ (List.mem_append_right _ (List.mem_append_right _ (List.mem_append_right _ (List.mem_append_right _ (List.mem_append_right _ (List.mem_append_left _ (List.mem_of_getElem? (i := 16) rfl))))))))
theorem bw_257 : Cond.code yX_wordsOf bX_wordsOf 2 (some .int) ∈ sr_big := (List.mem_append_right _ (List.mem_append_right _ (List.mem_append_right _ (List.mem_append_right _ (List.mem_append_right _ (List.mem_append_right _ (List.mem_append_left _ (List.mem_of_getElem? (i := 17) rfl))))))))
theorem bw_258 : Cond.methodLink RL 77 yL_word ∈ sr_big := (List.mem_append_right _ (List.mem_append_right _ (List.mem_append_right _ (List.mem_append_right _ (List.mem_append_right _ (List.mem_append_right _ (List.mem_append_left _ (List.mem_of_getElem? (i := 18) rfl))))))))
theorem bw_259 : Cond.static yL_word ∈ sr_big := (List.mem_append_right _ (List.mem_append_right _ (List.mem_append_right _ (List.mem_append_right _ (List.mem_append_right _ (List.mem_append_right _ (List.mem_append_left _ (List.mem_of_getElem? (i := 19) rfl))))))))
theorem bw_260 : Cond.codeWith yL_word bL_word 5 (some .int) [(0, 10, 13, 23)] ∈ sr_big := (List.mem_append_right _ (List.mem_append_right _ (List.mem_append_right _ (List.mem_append_right _ (List.mem_append_right _ (List.mem_append_right _ (List.mem_append_left _ (List.mem_of_getElem? (i := 20) rfl))))))))
theorem bw_261 : Cond.methodLink RL 31 yX_word ∈ sr_big := (List.mem_append_right _ (List.mem_append_right _ (List.mem_append_right _ (List.mem_append_right _ (List.mem_append_right _ (List.mem_append_right _ (List.mem_append_left _ (List.mem_of_getElem? (i := 21) rfl))))))))
theorem bw_262 : Cond.instanceMethod yX_word ∈ sr_big := (List.mem_append_right _ (List.mem_append_right _ (List.mem_append_right _ (List.mem_append_right _ (List.mem_append_right _ (List.mem_append_right _ (List.mem_append_left _ (List.mem_of_getElem? (i := 22) rfl))))))))
theorem bw_263 : Cond.selects RX yX_word yX_word ∈ sr_big := (List.mem_append_right _ (List.mem_append_right _ (List.mem_append_right _ (List.mem_append_right _ (List.mem_append_right _ (List.mem_append_right _ (List.mem_append_left _ (List.mem_of_getElem? (i := 23) rfl))))))))
theorem bw_264 : Cond.code yX_word bX_word 3 (some .int) ∈ sr_big := (List.mem_append_right _ (List.mem_append_right _ (List.mem_append_right _ (List.mem_append_right _ (List.mem_append_right _ (List.mem_append_right _ (List.mem_append_left _ (List.mem_of_getElem? (i := 24) rfl))))))))
theorem bw_265 : Cond.methodLink RL 80 yL_root ∈ sr_big := (List.mem_append_right _ (List.mem_append_right _ (List.mem_append_right _ (List.mem_append_right _ (List.mem_append_right _ (List.mem_append_right _ (List.mem_append_left _ (List.mem_of_getElem? (i := 25) rfl))))))))
theorem bw_266 : Cond.static yL_root ∈ sr_big := (List.mem_append_right _ (List.mem_append_right _ (List.mem_append_right _ (List.mem_append_right _ (List.mem_append_right _ (List.mem_append_right _ (List.mem_append_left _ (List.mem_of_getElem? (i := 26) rfl))))))))
theorem bw_267 : Cond.codeWith yL_root bL_root 5 (some .int) [(0, 10, 13, 23)] ∈ sr_big := (List.mem_append_right _ (List.mem_append_right _ (List.mem_append_right _ (List.mem_append_right _ (List.mem_append_right _ (List.mem_append_right _ (List.mem_append_left _ (List.mem_of_getElem? (i := 27) rfl))))))))
theorem bw_268 : Cond.methodLink RL 34 yX_root ∈ sr_big := (List.mem_append_right _ (List.mem_append_right _ (List.mem_append_right _ (List.mem_append_right _ (List.mem_append_right _ (List.mem_append_right _ (List.mem_append_left _ (List.mem_of_getElem? (i := 28) rfl))))))))
theorem bw_269 : Cond.instanceMethod yX_root ∈ sr_big := (List.mem_append_right _ (List.mem_append_right _ (List.mem_append_right _ (List.mem_append_right _ (List.mem_append_right _ (List.mem_append_right _ (List.mem_append_left _ (List.mem_of_getElem? (i := 29) rfl))))))))
theorem bw_270 : Cond.selects RX yX_root yX_root ∈ sr_big := (List.mem_append_right _ (List.mem_append_right _ (List.mem_append_right _ (List.mem_append_right _ (List.mem_append_right _ (List.mem_append_right _ (List.mem_append_left _ (List.mem_of_getElem? (i := 30) rfl))))))))
theorem bw_271 : Cond.code yX_root bX_root 4 (some .int) ∈ sr_big := (List.mem_append_right _ (List.mem_append_right _ (List.mem_append_right _ (List.mem_append_right _ (List.mem_append_right _ (List.mem_append_right _ (List.mem_append_left _ (List.mem_of_getElem? (i := 31) rfl))))))))
theorem bw_272 : Cond.methodLink RX 67 yX_needRoot ∈ sr_big := (List.mem_append_right _ (List.mem_append_right _ (List.mem_append_right _ (List.mem_append_right _ (List.mem_append_right _ (List.mem_append_right _ (List.mem_append_left _ (List.mem_of_getElem? (i := 32) rfl))))))))
theorem bw_273 : Cond.instanceMethod yX_needRoot ∈ sr_big := (List.mem_append_right _ (List.mem_append_right _ (List.mem_append_right _ (List.mem_append_right _ (List.mem_append_right _ (List.mem_append_right _ (List.mem_append_left _ (List.mem_of_getElem? (i := 33) rfl))))))))
theorem bw_274 : Cond.code yX_needRoot bX_needRoot 2 none ∈ sr_big := (List.mem_append_right _ (List.mem_append_right _ (List.mem_append_right _ (List.mem_append_right _ (List.mem_append_right _ (List.mem_append_right _ (List.mem_append_left _ (List.mem_of_getElem? (i := 34) rfl))))))))
theorem bw_275 : Cond.methodLink RL 83 yL_rooted ∈ sr_big := (List.mem_append_right _ (List.mem_append_right _ (List.mem_append_right _ (List.mem_append_right _ (List.mem_append_right _ (List.mem_append_right _ (List.mem_append_left _ (List.mem_of_getElem? (i := 35) rfl))))))))
theorem bw_276 : Cond.static yL_rooted ∈ sr_big := (List.mem_append_right _ (List.mem_append_right _ (List.mem_append_right _ (List.mem_append_right _ (List.mem_append_right _ (List.mem_append_right _ (List.mem_append_left _ (List.mem_of_getElem? (i := 36) rfl))))))))
theorem bw_277 : Cond.codeWith yL_rooted bL_rooted 4 (some .int) [(0, 9, 12, 23)] ∈ sr_big := (List.mem_append_right _ (List.mem_append_right _ (List.mem_append_right _ (List.mem_append_right _ (List.mem_append_right _ (List.mem_append_right _ (List.mem_append_left _ (List.mem_of_getElem? (i := 37) rfl))))))))
theorem bw_278 : Cond.methodLink RL 37 yX_rooted ∈ sr_big := (List.mem_append_right _ (List.mem_append_right _ (List.mem_append_right _ (List.mem_append_right _ (List.mem_append_right _ (List.mem_append_right _ (List.mem_append_left _ (List.mem_of_getElem? (i := 38) rfl))))))))
theorem bw_279 : Cond.instanceMethod yX_rooted ∈ sr_big := (List.mem_append_right _ (List.mem_append_right _ (List.mem_append_right _ (List.mem_append_right _ (List.mem_append_right _ (List.mem_append_right _ (List.mem_append_left _ (List.mem_of_getElem? (i := 39) rfl))))))))
theorem bw_280 : Cond.selects RX yX_rooted yX_rooted ∈ sr_big := (List.mem_append_right _ (List.mem_append_right _ (List.mem_append_right _ (List.mem_append_right _ (List.mem_append_right _ (List.mem_append_right _ (List.mem_append_right _ (List.mem_append_left _ (List.mem_of_getElem? (i := 0) rfl)))))))))
theorem bw_281 : Cond.code yX_rooted bX_rooted 2 (some .int) ∈ sr_big := (List.mem_append_right _ (List.mem_append_right _ (List.mem_append_right _ (List.mem_append_right _ (List.mem_append_right _ (List.mem_append_right _ (List.mem_append_right _ (List.mem_append_left _ (List.mem_of_getElem? (i := 1) rfl)))))))))
theorem bw_282 : Cond.methodLink RL 90 yL_number ∈ sr_big := (List.mem_append_right _ (List.mem_append_right _ (List.mem_append_right _ (List.mem_append_right _ (List.mem_append_right _ (List.mem_append_right _ (List.mem_append_right _ (List.mem_append_left _ (List.mem_of_getElem? (i := 2) rfl)))))))))
theorem bw_283 : Cond.static yL_number ∈ sr_big := (List.mem_append_right _ (List.mem_append_right _ (List.mem_append_right _ (List.mem_append_right _ (List.mem_append_right _ (List.mem_append_right _ (List.mem_append_right _ (List.mem_append_left _ (List.mem_of_getElem? (i := 3) rfl)))))))))
theorem bw_284 : Cond.codeWith yL_number bL_number 4 (some .int) [(0, 9, 12, 23)] ∈ sr_big := (List.mem_append_right _ (List.mem_append_right _ (List.mem_append_right _ (List.mem_append_right _ (List.mem_append_right _ (List.mem_append_right _ (List.mem_append_right _ (List.mem_append_left _ (List.mem_of_getElem? (i := 4) rfl)))))))))
theorem bw_285 : Cond.methodLink RL 40 yX_number ∈ sr_big := (List.mem_append_right _ (List.mem_append_right _ (List.mem_append_right _ (List.mem_append_right _ (List.mem_append_right _ (List.mem_append_right _ (List.mem_append_right _ (List.mem_append_left _ (List.mem_of_getElem? (i := 5) rfl)))))))))
theorem bw_286 : Cond.instanceMethod yX_number ∈ sr_big := (List.mem_append_right _ (List.mem_append_right _ (List.mem_append_right _ (List.mem_append_right _ (List.mem_append_right _ (List.mem_append_right _ (List.mem_append_right _ (List.mem_append_left _ (List.mem_of_getElem? (i := 6) rfl)))))))))
theorem bw_287 : Cond.selects RX yX_number yX_number ∈ sr_big := (List.mem_append_right _ (List.mem_append_right _ (List.mem_append_right _ (List.mem_append_right _ (List.mem_append_right _ (List.mem_append_right _ (List.mem_append_right _ (List.mem_append_left _ (List.mem_of_getElem? (i := 7) rfl)))))))))
theorem bw_288 : Cond.code yX_number bX_number 2 (some .int) ∈ sr_big := (List.mem_append_right _ (List.mem_append_right _ (List.mem_append_right _ (List.mem_append_right _ (List.mem_append_right _ (List.mem_append_right _ (List.mem_append_right _ (List.mem_append_left _ (List.mem_of_getElem? (i := 8) rfl)))))))))
theorem bw_289 : Cond.methodLink RL 97 yL_next ∈ sr_big := (List.mem_append_right _ (List.mem_append_right _ (List.mem_append_right _ (List.mem_append_right _ (List.mem_append_right _ (List.mem_append_right _ (List.mem_append_right _ (List.mem_append_left _ (List.mem_of_getElem? (i := 9) rfl)))))))))
theorem bw_290 : Cond.static yL_next ∈ sr_big := (List.mem_append_right _ (List.mem_append_right _ (List.mem_append_right _ (List.mem_append_right _ (List.mem_append_right _ (List.mem_append_right _ (List.mem_append_right _ (List.mem_append_left _ (List.mem_of_getElem? (i := 10) rfl)))))))))
theorem bw_291 : Cond.codeWith yL_next bL_next 4 (some .int) [(0, 9, 12, 23)] ∈ sr_big := (List.mem_append_right _ (List.mem_append_right _ (List.mem_append_right _ (List.mem_append_right _ (List.mem_append_right _ (List.mem_append_right _ (List.mem_append_right _ (List.mem_append_left _ (List.mem_of_getElem? (i := 11) rfl)))))))))
theorem bw_292 : Cond.methodLink RL 43 yX_next ∈ sr_big := (List.mem_append_right _ (List.mem_append_right _ (List.mem_append_right _ (List.mem_append_right _ (List.mem_append_right _ (List.mem_append_right _ (List.mem_append_right _ (List.mem_append_left _ (List.mem_of_getElem? (i := 12) rfl)))))))))
theorem bw_293 : Cond.instanceMethod yX_next ∈ sr_big := (List.mem_append_right _ (List.mem_append_right _ (List.mem_append_right _ (List.mem_append_right _ (List.mem_append_right _ (List.mem_append_right _ (List.mem_append_right _ (List.mem_append_left _ (List.mem_of_getElem? (i := 13) rfl)))))))))
theorem bw_294 : Cond.selects RX yX_next yX_next ∈ sr_big := (List.mem_append_right _ (List.mem_append_right _ (List.mem_append_right _ (List.mem_append_right _ (List.mem_append_right _ (List.mem_append_right _ (List.mem_append_right _ (List.mem_append_left _ (List.mem_of_getElem? (i := 14) rfl)))))))))
theorem bw_295 : Cond.code yX_next bX_next 3 (some .int) ∈ sr_big := (List.mem_append_right _ (List.mem_append_right _ (List.mem_append_right _ (List.mem_append_right _ (List.mem_append_right _ (List.mem_append_right _ (List.mem_append_right _ (List.mem_append_left _ (List.mem_of_getElem? (i := 15) rfl)))))))))
theorem bw_296 : Cond.methodLink RL 100 yL_count ∈ sr_big := (List.mem_append_right _ (List.mem_append_right _ (List.mem_append_right _ (List.mem_append_right _ (List.mem_append_right _ (List.mem_append_right _ (List.mem_append_right _ (List.mem_append_left _ (List.mem_of_getElem? (i := 16) rfl)))))))))
theorem bw_297 : Cond.static yL_count ∈ sr_big := (List.mem_append_right _ (List.mem_append_right _ (List.mem_append_right _ (List.mem_append_right _ (List.mem_append_right _ (List.mem_append_right _ (List.mem_append_right _ (List.mem_append_left _ (List.mem_of_getElem? (i := 17) rfl)))))))))
theorem bw_298 : Cond.codeWith yL_count bL_count 4 (some .int) [(0, 9, 12, 13)] ∈ sr_big := (List.mem_append_right _ (List.mem_append_right _ (List.mem_append_right _ (List.mem_append_right _ (List.mem_append_right _ (List.mem_append_right _ (List.mem_append_right _ (List.mem_append_left _ (List.mem_of_getElem? (i := 18) rfl)))))))))
theorem bw_299 : Cond.methodLink RL 46 yX_count ∈ sr_big := (List.mem_append_right _ (List.mem_append_right _ (List.mem_append_right _ (List.mem_append_right _ (List.mem_append_right _ (List.mem_append_right _ (List.mem_append_right _ (List.mem_append_left _ (List.mem_of_getElem? (i := 19) rfl)))))))))
theorem bw_300 : Cond.instanceMethod yX_count ∈ sr_big := (List.mem_append_right _ (List.mem_append_right _ (List.mem_append_right _ (List.mem_append_right _ (List.mem_append_right _ (List.mem_append_right _ (List.mem_append_right _ (List.mem_append_left _ (List.mem_of_getElem? (i := 20) rfl)))))))))
theorem bw_301 : Cond.selects RX yX_count yX_count ∈ sr_big := (List.mem_append_right _ (List.mem_append_right _ (List.mem_append_right _ (List.mem_append_right _ (List.mem_append_right _ (List.mem_append_right _ (List.mem_append_right _ (List.mem_append_left _ (List.mem_of_getElem? (i := 21) rfl)))))))))
theorem bw_302 : Cond.code yX_count bX_count 2 (some .int) ∈ sr_big := (List.mem_append_right _ (List.mem_append_right _ (List.mem_append_right _ (List.mem_append_right _ (List.mem_append_right _ (List.mem_append_right _ (List.mem_append_right _ (List.mem_append_left _ (List.mem_of_getElem? (i := 22) rfl)))))))))
theorem bw_303 : Cond.classLink RL 50 "SlideRowModel" ∈ sr_big := (List.mem_append_right _ (List.mem_append_right _ (List.mem_append_right _ (List.mem_append_right _ (List.mem_append_right _ (List.mem_append_right _ (List.mem_append_right _ (List.mem_append_left _ (List.mem_of_getElem? (i := 23) rfl)))))))))
theorem bw_304 : Cond.instantiable RM 13 ∈ sr_big := (List.mem_append_right _ (List.mem_append_right _ (List.mem_append_right _ (List.mem_append_right _ (List.mem_append_right _ (List.mem_append_right _ (List.mem_append_right _ (List.mem_append_left _ (List.mem_of_getElem? (i := 24) rfl)))))))))
theorem bw_305 : Cond.methodLink RL 52 yM_init ∈ sr_big := (List.mem_append_right _ (List.mem_append_right _ (List.mem_append_right _ (List.mem_append_right _ (List.mem_append_right _ (List.mem_append_right _ (List.mem_append_right _ (List.mem_append_left _ (List.mem_of_getElem? (i := 25) rfl)))))))))
theorem bw_306 : Cond.instanceMethod yM_init ∈ sr_big := (List.mem_append_right _ (List.mem_append_right _ (List.mem_append_right _ (List.mem_append_right _ (List.mem_append_right _ (List.mem_append_right _ (List.mem_append_right _ (List.mem_append_left _ (List.mem_of_getElem? (i := 26) rfl)))))))))
theorem bw_307 : Cond.code yM_init bM_init 1 none ∈ sr_big := (List.mem_append_right _ (List.mem_append_right _ (List.mem_append_right _ (List.mem_append_right _ (List.mem_append_right _ (List.mem_append_right _ (List.mem_append_right _ (List.mem_append_left _ (List.mem_of_getElem? (i := 27) rfl)))))))))
theorem bw_308 : Cond.methodLink RM 1 ⟨"java/lang/Object", "<init>", "()V"⟩ ∈ sr_big := (List.mem_append_right _ (List.mem_append_right _ (List.mem_append_right _ (List.mem_append_right _ (List.mem_append_right _ (List.mem_append_right _ (List.mem_append_right _ (List.mem_append_left _ (List.mem_of_getElem? (i := 28) rfl)))))))))
theorem bw_309 : Cond.fieldLink RM 39 "SlideRowModel" "thrown" "I" ∈ sr_big := (List.mem_append_right _ (List.mem_append_right _ (List.mem_append_right _ (List.mem_append_right _ (List.mem_append_right _ (List.mem_append_right _ (List.mem_append_right _ (List.mem_append_left _ (List.mem_of_getElem? (i := 29) rfl)))))))))
theorem bw_310 : Cond.fieldLink RM 7 "SlideRowModel" "cells" "I" ∈ sr_big := (List.mem_append_right _ (List.mem_append_right _ (List.mem_append_right _ (List.mem_append_right _ (List.mem_append_right _ (List.mem_append_right _ (List.mem_append_right _ (List.mem_append_left _ (List.mem_of_getElem? (i := 30) rfl)))))))))
theorem bw_311 : Cond.fieldLink RM 13 "SlideRowModel" "top" "I" ∈ sr_big := (List.mem_append_right _ (List.mem_append_right _ (List.mem_append_right _ (List.mem_append_right _ (List.mem_append_right _ (List.mem_append_right _ (List.mem_append_right _ (List.mem_append_left _ (List.mem_of_getElem? (i := 31) rfl)))))))))
theorem bw_312 : Cond.fieldLink RM 16 "SlideRowModel" "fields" "[I" ∈ sr_big := (List.mem_append_right _ (List.mem_append_right _ (List.mem_append_right _ (List.mem_append_right _ (List.mem_append_right _ (List.mem_append_right _ (List.mem_append_right _ (List.mem_append_left _ (List.mem_of_getElem? (i := 32) rfl)))))))))
theorem bw_313 : Cond.fieldLink RM 20 "SlideRowModel" "words" "[I" ∈ sr_big := (List.mem_append_right _ (List.mem_append_right _ (List.mem_append_right _ (List.mem_append_right _ (List.mem_append_right _ (List.mem_append_right _ (List.mem_append_right _ (List.mem_append_left _ (List.mem_of_getElem? (i := 33) rfl)))))))))
theorem bw_314 : Cond.fieldLink RM 23 "SlideRowModel" "numbers" "[I" ∈ sr_big := (List.mem_append_right _ (List.mem_append_right _ (List.mem_append_right _ (List.mem_append_right _ (List.mem_append_right _ (List.mem_append_right _ (List.mem_append_right _ (List.mem_append_left _ (List.mem_of_getElem? (i := 34) rfl)))))))))
theorem bw_315 : Cond.fieldLink RM 26 "SlideRowModel" "targets" "[I" ∈ sr_big := (List.mem_append_right _ (List.mem_append_right _ (List.mem_append_right _ (List.mem_append_right _ (List.mem_append_right _ (List.mem_append_right _ (List.mem_append_right _ (List.mem_append_left _ (List.mem_of_getElem? (i := 35) rfl)))))))))
theorem bw_316 : Cond.fieldLink RM 29 "SlideRowModel" "reached" "[Z" ∈ sr_big := (List.mem_append_right _ (List.mem_append_right _ (List.mem_append_right _ (List.mem_append_right _ (List.mem_append_right _ (List.mem_append_right _ (List.mem_append_right _ (List.mem_append_left _ (List.mem_of_getElem? (i := 36) rfl)))))))))
theorem bw_317 : Cond.fieldLink RM 33 "SlideRowModel" "data" "[I" ∈ sr_big := (List.mem_append_right _ (List.mem_append_right _ (List.mem_append_right _ (List.mem_append_right _ (List.mem_append_right _ (List.mem_append_right _ (List.mem_append_right _ (List.mem_append_left _ (List.mem_of_getElem? (i := 37) rfl)))))))))
theorem bw_318 : Cond.fieldLink RM 36 "SlideRowModel" "roots" "[I" ∈ sr_big := (List.mem_append_right _ (List.mem_append_right _ (List.mem_append_right _ (List.mem_append_right _ (List.mem_append_right _ (List.mem_append_right _ (List.mem_append_right _ (List.mem_append_left _ (List.mem_of_getElem? (i := 38) rfl)))))))))
theorem bw_319 : Cond.fieldLink RM 46 "SlideRowModel" "slides" "I" ∈ sr_big := (List.mem_append_right _ (List.mem_append_right _ (List.mem_append_right _ (List.mem_append_right _ (List.mem_append_right _ (List.mem_append_right _ (List.mem_append_right _ (List.mem_append_left _ (List.mem_of_getElem? (i := 39) rfl)))))))))
theorem bw_320 : Cond.fieldLink RM 49 "SlideRowModel" "gone" "I" ∈ sr_big := (List.mem_append_right _ (List.mem_append_right _ (List.mem_append_right _ (List.mem_append_right _ (List.mem_append_right _ (List.mem_append_right _ (List.mem_append_right _ (List.mem_append_right _ (List.mem_append_left _ (List.mem_of_getElem? (i := 0) rfl))))))))))
theorem bw_321 : Cond.fieldLink RM 52 "SlideRowModel" "given" "I" ∈ sr_big := (List.mem_append_right _ (List.mem_append_right _ (List.mem_append_right _ (List.mem_append_right _ (List.mem_append_right _ (List.mem_append_right _ (List.mem_append_right _ (List.mem_append_right _ (List.mem_append_left _ (List.mem_of_getElem? (i := 1) rfl))))))))))
theorem bw_322 : Cond.lays RM "SlideRowModel" "thrown" "I" ∈ sr_big := (List.mem_append_right _ (List.mem_append_right _ (List.mem_append_right _ (List.mem_append_right _ (List.mem_append_right _ (List.mem_append_right _ (List.mem_append_right _ (List.mem_append_right _ (List.mem_append_left _ (List.mem_of_getElem? (i := 2) rfl))))))))))
theorem bw_323 : Cond.lays RM "SlideRowModel" "cells" "I" ∈ sr_big := (List.mem_append_right _ (List.mem_append_right _ (List.mem_append_right _ (List.mem_append_right _ (List.mem_append_right _ (List.mem_append_right _ (List.mem_append_right _ (List.mem_append_right _ (List.mem_append_left _ (List.mem_of_getElem? (i := 3) rfl))))))))))
theorem bw_324 : Cond.lays RM "SlideRowModel" "top" "I" ∈ sr_big := (List.mem_append_right _ (List.mem_append_right _ (List.mem_append_right _ (List.mem_append_right _ (List.mem_append_right _ (List.mem_append_right _ (List.mem_append_right _ (List.mem_append_right _ (List.mem_append_left _ (List.mem_of_getElem? (i := 4) rfl))))))))))
theorem bw_325 : Cond.laysFinal RM "SlideRowModel" "fields" "[I" ∈ sr_big := (List.mem_append_right _ (List.mem_append_right _ (List.mem_append_right _ (List.mem_append_right _ (List.mem_append_right _ (List.mem_append_right _ (List.mem_append_right _ (List.mem_append_right _ (List.mem_append_left _ (List.mem_of_getElem? (i := 5) rfl))))))))))
theorem bw_326 : Cond.laysFinal RM "SlideRowModel" "words" "[I" ∈ sr_big := (List.mem_append_right _ (List.mem_append_right _ (List.mem_append_right _ (List.mem_append_right _ (List.mem_append_right _ (List.mem_append_right _ (List.mem_append_right _ (List.mem_append_right _ (List.mem_append_left _ (List.mem_of_getElem? (i := 6) rfl))))))))))
theorem bw_327 : Cond.laysFinal RM "SlideRowModel" "numbers" "[I" ∈ sr_big := (List.mem_append_right _ (List.mem_append_right _ (List.mem_append_right _ (List.mem_append_right _ (List.mem_append_right _ (List.mem_append_right _ (List.mem_append_right _ (List.mem_append_right _ (List.mem_append_left _ (List.mem_of_getElem? (i := 7) rfl))))))))))
theorem bw_328 : Cond.laysFinal RM "SlideRowModel" "targets" "[I" ∈ sr_big := (List.mem_append_right _ (List.mem_append_right _ (List.mem_append_right _ (List.mem_append_right _ (List.mem_append_right _ (List.mem_append_right _ (List.mem_append_right _ (List.mem_append_right _ (List.mem_append_left _ (List.mem_of_getElem? (i := 8) rfl))))))))))
theorem bw_329 : Cond.laysFinal RM "SlideRowModel" "reached" "[Z" ∈ sr_big := (List.mem_append_right _ (List.mem_append_right _ (List.mem_append_right _ (List.mem_append_right _ (List.mem_append_right _ (List.mem_append_right _ (List.mem_append_right _ (List.mem_append_right _ (List.mem_append_left _ (List.mem_of_getElem? (i := 9) rfl))))))))))
theorem bw_330 : Cond.laysFinal RM "SlideRowModel" "data" "[I" ∈ sr_big := (List.mem_append_right _ (List.mem_append_right _ (List.mem_append_right _ (List.mem_append_right _ (List.mem_append_right _ (List.mem_append_right _ (List.mem_append_right _ (List.mem_append_right _ (List.mem_append_left _ (List.mem_of_getElem? (i := 10) rfl))))))))))
theorem bw_331 : Cond.laysFinal RM "SlideRowModel" "roots" "[I" ∈ sr_big := (List.mem_append_right _ (List.mem_append_right _ (List.mem_append_right _ (List.mem_append_right _ (List.mem_append_right _ (List.mem_append_right _ (List.mem_append_right _ (List.mem_append_right _ (List.mem_append_left _ (List.mem_of_getElem? (i := 11) rfl))))))))))
theorem bw_332 : Cond.lays RM "SlideRowModel" "slides" "I" ∈ sr_big := (List.mem_append_right _ (List.mem_append_right _ (List.mem_append_right _ (List.mem_append_right _ (List.mem_append_right _ (List.mem_append_right _ (List.mem_append_right _ (List.mem_append_right _ (List.mem_append_left _ (List.mem_of_getElem? (i := 12) rfl))))))))))
theorem bw_333 : Cond.lays RM "SlideRowModel" "gone" "I" ∈ sr_big := (List.mem_append_right _ (List.mem_append_right _ (List.mem_append_right _ (List.mem_append_right _ (List.mem_append_right _ (List.mem_append_right _ (List.mem_append_right _ (List.mem_append_right _ (List.mem_append_left _ (List.mem_of_getElem? (i := 13) rfl))))))))))
theorem bw_334 : Cond.lays RM "SlideRowModel" "given" "I" ∈ sr_big := (List.mem_append_right _ (List.mem_append_right _ (List.mem_append_right _ (List.mem_append_right _ (List.mem_append_right _ (List.mem_append_right _ (List.mem_append_right _ (List.mem_append_right _ (List.mem_append_left _ (List.mem_of_getElem? (i := 14) rfl))))))))))
theorem bw_335 : Cond.arrayClass .boolean ∈ sr_big := (List.mem_append_right _ (List.mem_append_right _ (List.mem_append_right _ (List.mem_append_right _ (List.mem_append_right _ (List.mem_append_right _ (List.mem_append_right _ (List.mem_append_right _ (List.mem_append_left _ (List.mem_of_getElem? (i := 15) rfl))))))))))
theorem bw_336 : Cond.methodLink RL 59 yM_thrown ∈ sr_big := (List.mem_append_right _ (List.mem_append_right _ (List.mem_append_right _ (List.mem_append_right _ (List.mem_append_right _ (List.mem_append_right _ (List.mem_append_right _ (List.mem_append_right _ (List.mem_append_left _ (List.mem_of_getElem? (i := 16) rfl))))))))))
theorem bw_337 : Cond.instanceMethod yM_thrown ∈ sr_big := (List.mem_append_right _ (List.mem_append_right _ (List.mem_append_right _ (List.mem_append_right _ (List.mem_append_right _ (List.mem_append_right _ (List.mem_append_right _ (List.mem_append_right _ (List.mem_append_left _ (List.mem_of_getElem? (i := 17) rfl))))))))))
theorem bw_338 : Cond.selects RM yM_thrown yM_thrown ∈ sr_big := (List.mem_append_right _ (List.mem_append_right _ (List.mem_append_right _ (List.mem_append_right _ (List.mem_append_right _ (List.mem_append_right _ (List.mem_append_right _ (List.mem_append_right _ (List.mem_append_left _ (List.mem_of_getElem? (i := 18) rfl))))))))))
theorem bw_339 : Cond.code yM_thrown bM_thrown 1 (some .int) ∈ sr_big := (List.mem_append_right _ (List.mem_append_right _ (List.mem_append_right _ (List.mem_append_right _ (List.mem_append_right _ (List.mem_append_right _ (List.mem_append_right _ (List.mem_append_right _ (List.mem_append_left _ (List.mem_of_getElem? (i := 19) rfl))))))))))
theorem bw_340 : Cond.methodLink RL 58 yM_space ∈ sr_big := (List.mem_append_right _ (List.mem_append_right _ (List.mem_append_right _ (List.mem_append_right _ (List.mem_append_right _ (List.mem_append_right _ (List.mem_append_right _ (List.mem_append_right _ (List.mem_append_left _ (List.mem_of_getElem? (i := 20) rfl))))))))))
theorem bw_341 : Cond.instanceMethod yM_space ∈ sr_big := (List.mem_append_right _ (List.mem_append_right _ (List.mem_append_right _ (List.mem_append_right _ (List.mem_append_right _ (List.mem_append_right _ (List.mem_append_right _ (List.mem_append_right _ (List.mem_append_left _ (List.mem_of_getElem? (i := 21) rfl))))))))))
theorem bw_342 : Cond.selects RM yM_space yM_space ∈ sr_big := (List.mem_append_right _ (List.mem_append_right _ (List.mem_append_right _ (List.mem_append_right _ (List.mem_append_right _ (List.mem_append_right _ (List.mem_append_right _ (List.mem_append_right _ (List.mem_append_left _ (List.mem_of_getElem? (i := 22) rfl))))))))))
theorem bw_343 : Cond.code yM_space bM_space 4 (some .int) ∈ sr_big := (List.mem_append_right _ (List.mem_append_right _ (List.mem_append_right _ (List.mem_append_right _ (List.mem_append_right _ (List.mem_append_right _ (List.mem_append_right _ (List.mem_append_right _ (List.mem_append_left _ (List.mem_of_getElem? (i := 23) rfl))))))))))
theorem bw_344 : Cond.methodLink RM 42 yM_goes ∈ sr_big := (List.mem_append_right _ (List.mem_append_right _ (List.mem_append_right _ (List.mem_append_right _ (List.mem_append_right _ (List.mem_append_right _ (List.mem_append_right _ (List.mem_append_right _ (List.mem_append_left _ (List.mem_of_getElem? (i := 24) rfl))))))))))
theorem bw_345 : Cond.instanceMethod yM_goes ∈ sr_big := (List.mem_append_right _ (List.mem_append_right _ (List.mem_append_right _ (List.mem_append_right _ (List.mem_append_right _ (List.mem_append_right _ (List.mem_append_right _ (List.mem_append_right _ (List.mem_append_left _ (List.mem_of_getElem? (i := 25) rfl))))))))))
theorem bw_346 : Cond.code yM_goes bM_goes 2 (some .boolean) ∈ sr_big := (List.mem_append_right _ (List.mem_append_right _ (List.mem_append_right _ (List.mem_append_right _ (List.mem_append_right _ (List.mem_append_right _ (List.mem_append_right _ (List.mem_append_right _ (List.mem_append_left _ (List.mem_of_getElem? (i := 26) rfl))))))))))
theorem bw_347 : Cond.methodLink RL 66 yM_make ∈ sr_big := (List.mem_append_right _ (List.mem_append_right _ (List.mem_append_right _ (List.mem_append_right _ (List.mem_append_right _ (List.mem_append_right _ (List.mem_append_right _ (List.mem_append_right _ (List.mem_append_left _ (List.mem_of_getElem? (i := 27) rfl))))))))))
theorem bw_348 : Cond.instanceMethod yM_make ∈ sr_big := (List.mem_append_right _ (List.mem_append_right _ (List.mem_append_right _ (List.mem_append_right _ (List.mem_append_right _ (List.mem_append_right _ (List.mem_append_right _ (List.mem_append_right _ (List.mem_append_left _ (List.mem_of_getElem? (i := 28) rfl))))))))))
theorem bw_349 : Cond.selects RM yM_make yM_make ∈ sr_big := (List.mem_append_right _ (List.mem_append_right _ (List.mem_append_right _ (List.mem_append_right _ (List.mem_append_right _ (List.mem_append_right _ (List.mem_append_right _ (List.mem_append_right _ (List.mem_append_left _ (List.mem_of_getElem? (i := 29) rfl))))))))))
theorem bw_350 : Cond.code yM_make bM_make 6 (some .int) ∈ sr_big := (List.mem_append_right _ (List.mem_append_right _ (List.mem_append_right _ (List.mem_append_right _ (List.mem_append_right _ (List.mem_append_right _ (List.mem_append_right _ (List.mem_append_right _ (List.mem_append_left _ (List.mem_of_getElem? (i := 30) rfl))))))))))
theorem bw_351 : Cond.methodLink RL 70 yM_set ∈ sr_big := (List.mem_append_right _ (List.mem_append_right _ (List.mem_append_right _ (List.mem_append_right _ (List.mem_append_right _ (List.mem_append_right _ (List.mem_append_right _ (List.mem_append_right _ (List.mem_append_left _ (List.mem_of_getElem? (i := 31) rfl))))))))))
theorem bw_352 : Cond.instanceMethod yM_set ∈ sr_big := (List.mem_append_right _ (List.mem_append_right _ (List.mem_append_right _ (List.mem_append_right _ (List.mem_append_right _ (List.mem_append_right _ (List.mem_append_right _ (List.mem_append_right _ (List.mem_append_left _ (List.mem_of_getElem? (i := 32) rfl))))))))))
theorem bw_353 : Cond.selects RM yM_set yM_set ∈ sr_big := (List.mem_append_right _ (List.mem_append_right _ (List.mem_append_right _ (List.mem_append_right _ (List.mem_append_right _ (List.mem_append_right _ (List.mem_append_right _ (List.mem_append_right _ (List.mem_append_left _ (List.mem_of_getElem? (i := 33) rfl))))))))))
theorem bw_354 : Cond.code yM_set bM_set 5 (some .int) ∈ sr_big := (List.mem_append_right _ (List.mem_append_right _ (List.mem_append_right _ (List.mem_append_right _ (List.mem_append_right _ (List.mem_append_right _ (List.mem_append_right _ (List.mem_append_right _ (List.mem_append_left _ (List.mem_of_getElem? (i := 34) rfl))))))))))
theorem bw_355 : Cond.methodLink RM 59 yM_isField ∈ sr_big := (List.mem_append_right _ (List.mem_append_right _ (List.mem_append_right _ (List.mem_append_right _ (List.mem_append_right _ (List.mem_append_right _ (List.mem_append_right _ (List.mem_append_right _ (List.mem_append_left _ (List.mem_of_getElem? (i := 35) rfl))))))))))
theorem bw_356 : Cond.instanceMethod yM_isField ∈ sr_big := (List.mem_append_right _ (List.mem_append_right _ (List.mem_append_right _ (List.mem_append_right _ (List.mem_append_right _ (List.mem_append_right _ (List.mem_append_right _ (List.mem_append_right _ (List.mem_append_left _ (List.mem_of_getElem? (i := 36) rfl))))))))))
theorem bw_357 : Cond.code yM_isField bM_isField 3 (some .boolean) ∈ sr_big := (List.mem_append_right _ (List.mem_append_right _ (List.mem_append_right _ (List.mem_append_right _ (List.mem_append_right _ (List.mem_append_right _ (List.mem_append_right _ (List.mem_append_right _ (List.mem_append_left _ (List.mem_of_getElem? (i := 37) rfl))))))))))
theorem bw_358 : Cond.methodLink RM 55 yM_isObject ∈ sr_big := (List.mem_append_right _ (List.mem_append_right _ (List.mem_append_right _ (List.mem_append_right _ (List.mem_append_right _ (List.mem_append_right _ (List.mem_append_right _ (List.mem_append_right _ (List.mem_append_left _ (List.mem_of_getElem? (i := 38) rfl))))))))))
theorem bw_359 : Cond.instanceMethod yM_isObject ∈ sr_big := (List.mem_append_right _ (List.mem_append_right _ (List.mem_append_right _ (List.mem_append_right _ (List.mem_append_right _ (List.mem_append_right _ (List.mem_append_right _ (List.mem_append_right _ (List.mem_append_left _ (List.mem_of_getElem? (i := 39) rfl))))))))))
theorem bw_360 : Cond.code yM_isObject bM_isObject 2 (some .boolean) ∈ sr_big := (List.mem_append_right _ (List.mem_append_right _ (List.mem_append_right _ (List.mem_append_right _ (List.mem_append_right _ (List.mem_append_right _ (List.mem_append_right _ (List.mem_append_right _ (List.mem_append_right _ (List.mem_append_left _ (List.mem_of_getElem? (i := 0) rfl)))))))))))
theorem bw_361 : Cond.methodLink RL 73 yM_get ∈ sr_big := (List.mem_append_right _ (List.mem_append_right _ (List.mem_append_right _ (List.mem_append_right _ (List.mem_append_right _ (List.mem_append_right _ (List.mem_append_right _ (List.mem_append_right _ (List.mem_append_right _ (List.mem_append_left _ (List.mem_of_getElem? (i := 1) rfl)))))))))))
theorem bw_362 : Cond.instanceMethod yM_get ∈ sr_big := (List.mem_append_right _ (List.mem_append_right _ (List.mem_append_right _ (List.mem_append_right _ (List.mem_append_right _ (List.mem_append_right _ (List.mem_append_right _ (List.mem_append_right _ (List.mem_append_right _ (List.mem_append_left _ (List.mem_of_getElem? (i := 2) rfl)))))))))))
theorem bw_363 : Cond.selects RM yM_get yM_get ∈ sr_big := (List.mem_append_right _ (List.mem_append_right _ (List.mem_append_right _ (List.mem_append_right _ (List.mem_append_right _ (List.mem_append_right _ (List.mem_append_right _ (List.mem_append_right _ (List.mem_append_right _ (List.mem_append_left _ (List.mem_of_getElem? (i := 3) rfl)))))))))))
theorem bw_364 : Cond.code yM_get bM_get 3 (some .int) ∈ sr_big := (List.mem_append_right _ (List.mem_append_right _ (List.mem_append_right _ (List.mem_append_right _ (List.mem_append_right _ (List.mem_append_right _ (List.mem_append_right _ (List.mem_append_right _ (List.mem_append_right _ (List.mem_append_left _ (List.mem_of_getElem? (i := 4) rfl)))))))))))
theorem bw_365 : Cond.methodLink RL 76 yM_put ∈ sr_big := (List.mem_append_right _ (List.mem_append_right _ (List.mem_append_right _ (List.mem_append_right _ (List.mem_append_right _ (List.mem_append_right _ (List.mem_append_right _ (List.mem_append_right _ (List.mem_append_right _ (List.mem_append_left _ (List.mem_of_getElem? (i := 5) rfl)))))))))))
theorem bw_366 : Cond.instanceMethod yM_put ∈ sr_big := (List.mem_append_right _ (List.mem_append_right _ (List.mem_append_right _ (List.mem_append_right _ (List.mem_append_right _ (List.mem_append_right _ (List.mem_append_right _ (List.mem_append_right _ (List.mem_append_right _ (List.mem_append_left _ (List.mem_of_getElem? (i := 6) rfl)))))))))))
theorem bw_367 : Cond.selects RM yM_put yM_put ∈ sr_big := (List.mem_append_right _ (List.mem_append_right _ (List.mem_append_right _ (List.mem_append_right _ (List.mem_append_right _ (List.mem_append_right _ (List.mem_append_right _ (List.mem_append_right _ (List.mem_append_right _ (List.mem_append_left _ (List.mem_of_getElem? (i := 7) rfl)))))))))))
theorem bw_368 : Cond.code yM_put bM_put 6 (some .int) ∈ sr_big := (List.mem_append_right _ (List.mem_append_right _ (List.mem_append_right _ (List.mem_append_right _ (List.mem_append_right _ (List.mem_append_right _ (List.mem_append_right _ (List.mem_append_right _ (List.mem_append_right _ (List.mem_append_left _ (List.mem_of_getElem? (i := 8) rfl)))))))))))
theorem bw_369 : Cond.methodLink RM 63 yM_isWord ∈ sr_big := (List.mem_append_right _ (List.mem_append_right _ (List.mem_append_right _ (List.mem_append_right _ (List.mem_append_right _ (List.mem_append_right _ (List.mem_append_right _ (List.mem_append_right _ (List.mem_append_right _ (List.mem_append_left _ (List.mem_of_getElem? (i := 9) rfl)))))))))))
theorem bw_370 : Cond.instanceMethod yM_isWord ∈ sr_big := (List.mem_append_right _ (List.mem_append_right _ (List.mem_append_right _ (List.mem_append_right _ (List.mem_append_right _ (List.mem_append_right _ (List.mem_append_right _ (List.mem_append_right _ (List.mem_append_right _ (List.mem_append_left _ (List.mem_of_getElem? (i := 10) rfl)))))))))))
theorem bw_371 : Cond.code yM_isWord bM_isWord 3 (some .boolean) ∈ sr_big := (List.mem_append_right _ (List.mem_append_right _ (List.mem_append_right _ (List.mem_append_right _ (List.mem_append_right _ (List.mem_append_right _ (List.mem_append_right _ (List.mem_append_right _ (List.mem_append_right _ (List.mem_append_left _ (List.mem_of_getElem? (i := 11) rfl)))))))))))
theorem bw_372 : Cond.methodLink RL 79 yM_word ∈ sr_big := (List.mem_append_right _ (List.mem_append_right _ (List.mem_append_right _ (List.mem_append_right _ (List.mem_append_right _ (List.mem_append_right _ (List.mem_append_right _ (List.mem_append_right _ (List.mem_append_right _ (List.mem_append_left _ (List.mem_of_getElem? (i := 12) rfl)))))))))))
theorem bw_373 : Cond.instanceMethod yM_word ∈ sr_big := (List.mem_append_right _ (List.mem_append_right _ (List.mem_append_right _ (List.mem_append_right _ (List.mem_append_right _ (List.mem_append_right _ (List.mem_append_right _ (List.mem_append_right _ (List.mem_append_right _ (List.mem_append_left _ (List.mem_of_getElem? (i := 13) rfl)))))))))))
theorem bw_374 : Cond.selects RM yM_word yM_word ∈ sr_big := (List.mem_append_right _ (List.mem_append_right _ (List.mem_append_right _ (List.mem_append_right _ (List.mem_append_right _ (List.mem_append_right _ (List.mem_append_right _ (List.mem_append_right _ (List.mem_append_right _ (List.mem_append_left _ (List.mem_of_getElem? (i := 14) rfl)))))))))))
theorem bw_375 : Cond.code yM_word bM_word 3 (some .int) ∈ sr_big := (List.mem_append_right _ (List.mem_append_right _ (List.mem_append_right _ (List.mem_append_right _ (List.mem_append_right _ (List.mem_append_right _ (List.mem_append_right _ (List.mem_append_right _ (List.mem_append_right _ (List.mem_append_left _ (List.mem_of_getElem? (i := 15) rfl)))))))))))
theorem bw_376 : Cond.methodLink RL 82 yM_root ∈ sr_big := (List.mem_append_right _ (List.mem_append_right _ (List.mem_append_right _ (List.mem_append_right _ (List.mem_append_right _ (List.mem_append_right _ (List.mem_append_right _ (List.mem_append_right _ (List.mem_append_right _ (List.mem_append_left _ (List.mem_of_getElem? (i := 16) rfl)))))))))))
theorem bw_377 : Cond.instanceMethod yM_root ∈ sr_big := (List.mem_append_right _ (List.mem_append_right _ (List.mem_append_right _ (List.mem_append_right _ (List.mem_append_right _ (List.mem_append_right _ (List.mem_append_right _ (List.mem_append_right _ (List.mem_append_right _ (List.mem_append_left _ (List.mem_of_getElem? (i := 17) rfl)))))))))))
theorem bw_378 : Cond.selects RM yM_root yM_root ∈ sr_big := (List.mem_append_right _ (List.mem_append_right _ (List.mem_append_right _ (List.mem_append_right _ (List.mem_append_right _ (List.mem_append_right _ (List.mem_append_right _ (List.mem_append_right _ (List.mem_append_right _ (List.mem_append_left _ (List.mem_of_getElem? (i := 18) rfl)))))))))))
theorem bw_379 : Cond.code yM_root bM_root 4 (some .int) ∈ sr_big := (List.mem_append_right _ (List.mem_append_right _ (List.mem_append_right _ (List.mem_append_right _ (List.mem_append_right _ (List.mem_append_right _ (List.mem_append_right _ (List.mem_append_right _ (List.mem_append_right _ (List.mem_append_left _ (List.mem_of_getElem? (i := 19) rfl)))))))))))
theorem bw_380 : Cond.methodLink RM 66 yM_isRoot ∈ sr_big := (List.mem_append_right _ (List.mem_append_right _ (List.mem_append_right _ (List.mem_append_right _ (List.mem_append_right _ (List.mem_append_right _ (List.mem_append_right _ (List.mem_append_right _ (List.mem_append_right _ (List.mem_append_left _ (List.mem_of_getElem? (i := 20) rfl)))))))))))
theorem bw_381 : Cond.static yM_isRoot ∈ sr_big := (List.mem_append_right _ (List.mem_append_right _ (List.mem_append_right _ (List.mem_append_right _ (List.mem_append_right _ (List.mem_append_right _ (List.mem_append_right _ (List.mem_append_right _ (List.mem_append_right _ (List.mem_append_left _ (List.mem_of_getElem? (i := 21) rfl)))))))))))
theorem bw_382 : Cond.code yM_isRoot bM_isRoot 1 (some .boolean) ∈ sr_big := (List.mem_append_right _ (List.mem_append_right _ (List.mem_append_right _ (List.mem_append_right _ (List.mem_append_right _ (List.mem_append_right _ (List.mem_append_right _ (List.mem_append_right _ (List.mem_append_right _ (List.mem_append_left _ (List.mem_of_getElem? (i := 22) rfl)))))))))))
theorem bw_383 : Cond.methodLink RL 85 yM_rooted ∈ sr_big := (List.mem_append_right _ (List.mem_append_right _ (List.mem_append_right _ (List.mem_append_right _ (List.mem_append_right _ (List.mem_append_right _ (List.mem_append_right _ (List.mem_append_right _ (List.mem_append_right _ (List.mem_append_left _ (List.mem_of_getElem? (i := 23) rfl)))))))))))
theorem bw_384 : Cond.instanceMethod yM_rooted ∈ sr_big := (List.mem_append_right _ (List.mem_append_right _ (List.mem_append_right _ (List.mem_append_right _ (List.mem_append_right _ (List.mem_append_right _ (List.mem_append_right _ (List.mem_append_right _ (List.mem_append_right _ (List.mem_append_left _ (List.mem_of_getElem? (i := 24) rfl)))))))))))
theorem bw_385 : Cond.selects RM yM_rooted yM_rooted ∈ sr_big := (List.mem_append_right _ (List.mem_append_right _ (List.mem_append_right _ (List.mem_append_right _ (List.mem_append_right _ (List.mem_append_right _ (List.mem_append_right _ (List.mem_append_right _ (List.mem_append_right _ (List.mem_append_left _ (List.mem_of_getElem? (i := 25) rfl)))))))))))
theorem bw_386 : Cond.code yM_rooted bM_rooted 2 (some .int) ∈ sr_big := (List.mem_append_right _ (List.mem_append_right _ (List.mem_append_right _ (List.mem_append_right _ (List.mem_append_right _ (List.mem_append_right _ (List.mem_append_right _ (List.mem_append_right _ (List.mem_append_right _ (List.mem_append_left _ (List.mem_of_getElem? (i := 26) rfl)))))))))))
theorem bw_387 : Cond.methodLink RL 89 yM_slide ∈ sr_big := (List.mem_append_right _ (List.mem_append_right _ (List.mem_append_right _ (List.mem_append_right _ (List.mem_append_right _ (List.mem_append_right _ (List.mem_append_right _ (List.mem_append_right _ (List.mem_append_right _ (List.mem_append_left _ (List.mem_of_getElem? (i := 27) rfl)))))))))))
theorem bw_388 : Cond.instanceMethod yM_slide ∈ sr_big := (List.mem_append_right _ (List.mem_append_right _ (List.mem_append_right _ (List.mem_append_right _ (List.mem_append_right _ (List.mem_append_right _ (List.mem_append_right _ (List.mem_append_right _ (List.mem_append_right _ (List.mem_append_left _ (List.mem_of_getElem? (i := 28) rfl)))))))))))
theorem bw_389 : Cond.selects RM yM_slide yM_slide ∈ sr_big := (List.mem_append_right _ (List.mem_append_right _ (List.mem_append_right _ (List.mem_append_right _ (List.mem_append_right _ (List.mem_append_right _ (List.mem_append_right _ (List.mem_append_right _ (List.mem_append_right _ (List.mem_append_left _ (List.mem_of_getElem? (i := 29) rfl)))))))))))
theorem bw_390 : Cond.code yM_slide bM_slide 6 (some .int) ∈ sr_big := (List.mem_append_right _ (List.mem_append_right _ (List.mem_append_right _ (List.mem_append_right _ (List.mem_append_right _ (List.mem_append_right _ (List.mem_append_right _ (List.mem_append_right _ (List.mem_append_right _ (List.mem_append_left _ (List.mem_of_getElem? (i := 30) rfl)))))))))))
theorem bw_391 : Cond.methodLink RM 73 yM_reach ∈ sr_big := (List.mem_append_right _ (List.mem_append_right _ (List.mem_append_right _ (List.mem_append_right _ (List.mem_append_right _ (List.mem_append_right _ (List.mem_append_right _ (List.mem_append_right _ (List.mem_append_right _ (List.mem_append_left _ (List.mem_of_getElem? (i := 31) rfl)))))))))))
theorem bw_392 : Cond.instanceMethod yM_reach ∈ sr_big := (List.mem_append_right _ (List.mem_append_right _ (List.mem_append_right _ (List.mem_append_right _ (List.mem_append_right _ (List.mem_append_right _ (List.mem_append_right _ (List.mem_append_right _ (List.mem_append_right _ (List.mem_append_left _ (List.mem_of_getElem? (i := 32) rfl)))))))))))
theorem bw_393 : Cond.code yM_reach bM_reach 6 (some .int) ∈ sr_big := (List.mem_append_right _ (List.mem_append_right _ (List.mem_append_right _ (List.mem_append_right _ (List.mem_append_right _ (List.mem_append_right _ (List.mem_append_right _ (List.mem_append_right _ (List.mem_append_right _ (List.mem_append_left _ (List.mem_of_getElem? (i := 33) rfl)))))))))))
theorem bw_394 : Cond.methodLink RM 69 yM_size ∈ sr_big := (List.mem_append_right _ (List.mem_append_right _ (List.mem_append_right _ (List.mem_append_right _ (List.mem_append_right _ (List.mem_append_right _ (List.mem_append_right _ (List.mem_append_right _ (List.mem_append_right _ (List.mem_append_left _ (List.mem_of_getElem? (i := 34) rfl)))))))))))
theorem bw_395 : Cond.instanceMethod yM_size ∈ sr_big := (List.mem_append_right _ (List.mem_append_right _ (List.mem_append_right _ (List.mem_append_right _ (List.mem_append_right _ (List.mem_append_right _ (List.mem_append_right _ (List.mem_append_right _ (List.mem_append_right _ (List.mem_append_left _ (List.mem_of_getElem? (i := 35) rfl)))))))))))
theorem bw_396 : Cond.code yM_size bM_size 2 (some .int) ∈ sr_big := (List.mem_append_right _ (List.mem_append_right _ (List.mem_append_right _ (List.mem_append_right _ (List.mem_append_right _ (List.mem_append_right _ (List.mem_append_right _ (List.mem_append_right _ (List.mem_append_right _ (List.mem_append_left _ (List.mem_of_getElem? (i := 36) rfl)))))))))))
theorem bw_397 : Cond.methodLink RM 77 yM_objects ∈ sr_big := (List.mem_append_right _ (List.mem_append_right _ (List.mem_append_right _ (List.mem_append_right _ (List.mem_append_right _ (List.mem_append_right _ (List.mem_append_right _ (List.mem_append_right _ (List.mem_append_right _ (List.mem_append_left _ (List.mem_of_getElem? (i := 37) rfl)))))))))))
theorem bw_398 : Cond.instanceMethod yM_objects ∈ sr_big := (List.mem_append_right _ (List.mem_append_right _ (List.mem_append_right _ (List.mem_append_right _ (List.mem_append_right _ (List.mem_append_right _ (List.mem_append_right _ (List.mem_append_right _ (List.mem_append_right _ (List.mem_append_left _ (List.mem_of_getElem? (i := 38) rfl)))))))))))
theorem bw_399 : Cond.code yM_objects bM_objects 3 (some .int) ∈ sr_big := (List.mem_append_right _ (List.mem_append_right _ (List.mem_append_right _ (List.mem_append_right _ (List.mem_append_right _ (List.mem_append_right _ (List.mem_append_right _ (List.mem_append_right _ (List.mem_append_right _ (List.mem_append_left _ (List.mem_of_getElem? (i := 39) rfl)))))))))))
theorem bw_400 : Cond.methodLink RM 80 yM_bring ∈ sr_big := (List.mem_append_right _ (List.mem_append_right _ (List.mem_append_right _ (List.mem_append_right _ (List.mem_append_right _ (List.mem_append_right _ (List.mem_append_right _ (List.mem_append_right _ (List.mem_append_right _ (List.mem_append_right _ (List.mem_of_getElem? (i := 0) rfl)))))))))))
theorem bw_401 : Cond.instanceMethod yM_bring ∈ sr_big := (List.mem_append_right _ (List.mem_append_right _ (List.mem_append_right _ (List.mem_append_right _ (List.mem_append_right _ (List.mem_append_right _ (List.mem_append_right _ (List.mem_append_right _ (List.mem_append_right _ (List.mem_append_right _ (List.mem_of_getElem? (i := 1) rfl)))))))))))
theorem bw_402 : Cond.code yM_bring bM_bring 8 none ∈ sr_big := (List.mem_append_right _ (List.mem_append_right _ (List.mem_append_right _ (List.mem_append_right _ (List.mem_append_right _ (List.mem_append_right _ (List.mem_append_right _ (List.mem_append_right _ (List.mem_append_right _ (List.mem_append_right _ (List.mem_of_getElem? (i := 2) rfl)))))))))))
theorem bw_403 : Cond.methodLink RL 92 yM_number ∈ sr_big := (List.mem_append_right _ (List.mem_append_right _ (List.mem_append_right _ (List.mem_append_right _ (List.mem_append_right _ (List.mem_append_right _ (List.mem_append_right _ (List.mem_append_right _ (List.mem_append_right _ (List.mem_append_right _ (List.mem_of_getElem? (i := 3) rfl)))))))))))
theorem bw_404 : Cond.instanceMethod yM_number ∈ sr_big := (List.mem_append_right _ (List.mem_append_right _ (List.mem_append_right _ (List.mem_append_right _ (List.mem_append_right _ (List.mem_append_right _ (List.mem_append_right _ (List.mem_append_right _ (List.mem_append_right _ (List.mem_append_right _ (List.mem_of_getElem? (i := 4) rfl)))))))))))
theorem bw_405 : Cond.selects RM yM_number yM_number ∈ sr_big := (List.mem_append_right _ (List.mem_append_right _ (List.mem_append_right _ (List.mem_append_right _ (List.mem_append_right _ (List.mem_append_right _ (List.mem_append_right _ (List.mem_append_right _ (List.mem_append_right _ (List.mem_append_right _ (List.mem_of_getElem? (i := 5) rfl)))))))))))
theorem bw_406 : Cond.code yM_number bM_number 2 (some .int) ∈ sr_big := (List.mem_append_right _ (List.mem_append_right _ (List.mem_append_right _ (List.mem_append_right _ (List.mem_append_right _ (List.mem_append_right _ (List.mem_append_right _ (List.mem_append_right _ (List.mem_append_right _ (List.mem_append_right _ (List.mem_of_getElem? (i := 6) rfl)))))))))))
theorem bw_407 : Cond.methodLink RL 96 yM_find ∈ sr_big := (List.mem_append_right _ (List.mem_append_right _ (List.mem_append_right _ (List.mem_append_right _ (List.mem_append_right _ (List.mem_append_right _ (List.mem_append_right _ (List.mem_append_right _ (List.mem_append_right _ (List.mem_append_right _ (List.mem_of_getElem? (i := 7) rfl)))))))))))
theorem bw_408 : Cond.instanceMethod yM_find ∈ sr_big := (List.mem_append_right _ (List.mem_append_right _ (List.mem_append_right _ (List.mem_append_right _ (List.mem_append_right _ (List.mem_append_right _ (List.mem_append_right _ (List.mem_append_right _ (List.mem_append_right _ (List.mem_append_right _ (List.mem_of_getElem? (i := 8) rfl)))))))))))
theorem bw_409 : Cond.selects RM yM_find yM_find ∈ sr_big := (List.mem_append_right _ (List.mem_append_right _ (List.mem_append_right _ (List.mem_append_right _ (List.mem_append_right _ (List.mem_append_right _ (List.mem_append_right _ (List.mem_append_right _ (List.mem_append_right _ (List.mem_append_right _ (List.mem_of_getElem? (i := 9) rfl)))))))))))
theorem bw_410 : Cond.code yM_find bM_find 3 (some .int) ∈ sr_big := (List.mem_append_right _ (List.mem_append_right _ (List.mem_append_right _ (List.mem_append_right _ (List.mem_append_right _ (List.mem_append_right _ (List.mem_append_right _ (List.mem_append_right _ (List.mem_append_right _ (List.mem_append_right _ (List.mem_of_getElem? (i := 10) rfl)))))))))))
theorem bw_411 : Cond.methodLink RL 99 yM_next ∈ sr_big := (List.mem_append_right _ (List.mem_append_right _ (List.mem_append_right _ (List.mem_append_right _ (List.mem_append_right _ (List.mem_append_right _ (List.mem_append_right _ (List.mem_append_right _ (List.mem_append_right _ (List.mem_append_right _ (List.mem_of_getElem? (i := 11) rfl)))))))))))
theorem bw_412 : Cond.instanceMethod yM_next ∈ sr_big := (List.mem_append_right _ (List.mem_append_right _ (List.mem_append_right _ (List.mem_append_right _ (List.mem_append_right _ (List.mem_append_right _ (List.mem_append_right _ (List.mem_append_right _ (List.mem_append_right _ (List.mem_append_right _ (List.mem_of_getElem? (i := 12) rfl)))))))))))
theorem bw_413 : Cond.selects RM yM_next yM_next ∈ sr_big := (List.mem_append_right _ (List.mem_append_right _ (List.mem_append_right _ (List.mem_append_right _ (List.mem_append_right _ (List.mem_append_right _ (List.mem_append_right _ (List.mem_append_right _ (List.mem_append_right _ (List.mem_append_right _ (List.mem_of_getElem? (i := 13) rfl)))))))))))
theorem bw_414 : Cond.code yM_next bM_next 3 (some .int) ∈ sr_big := (List.mem_append_right _ (List.mem_append_right _ (List.mem_append_right _ (List.mem_append_right _ (List.mem_append_right _ (List.mem_append_right _ (List.mem_append_right _ (List.mem_append_right _ (List.mem_append_right _ (List.mem_append_right _ (List.mem_of_getElem? (i := 14) rfl)))))))))))
theorem bw_415 : Cond.methodLink RL 102 yM_count ∈ sr_big := (List.mem_append_right _ (List.mem_append_right _ (List.mem_append_right _ (List.mem_append_right _ (List.mem_append_right _ (List.mem_append_right _ (List.mem_append_right _ (List.mem_append_right _ (List.mem_append_right _ (List.mem_append_right _ (List.mem_of_getElem? (i := 15) rfl)))))))))))
theorem bw_416 : Cond.instanceMethod yM_count ∈ sr_big := (List.mem_append_right _ (List.mem_append_right _ (List.mem_append_right _ (List.mem_append_right _ (List.mem_append_right _ (List.mem_append_right _ (List.mem_append_right _ (List.mem_append_right _ (List.mem_append_right _ (List.mem_append_right _ (List.mem_of_getElem? (i := 16) rfl)))))))))))
theorem bw_417 : Cond.selects RM yM_count yM_count ∈ sr_big := (List.mem_append_right _ (List.mem_append_right _ (List.mem_append_right _ (List.mem_append_right _ (List.mem_append_right _ (List.mem_append_right _ (List.mem_append_right _ (List.mem_append_right _ (List.mem_append_right _ (List.mem_append_right _ (List.mem_of_getElem? (i := 17) rfl)))))))))))
theorem bw_418 : Cond.code yM_count bM_count 2 (some .int) ∈ sr_big := (List.mem_append_right _ (List.mem_append_right _ (List.mem_append_right _ (List.mem_append_right _ (List.mem_append_right _ (List.mem_append_right _ (List.mem_append_right _ (List.mem_append_right _ (List.mem_append_right _ (List.mem_append_right _ (List.mem_of_getElem? (i := 18) rfl)))))))))))
theorem bw_419 : Cond.arrayClass .long ∈ sr_big := (List.mem_append_right _ (List.mem_append_right _ (List.mem_append_right _ (List.mem_append_right _ (List.mem_append_right _ (List.mem_append_right _ (List.mem_append_right _ (List.mem_append_right _ (List.mem_append_right _ (List.mem_append_right _ (List.mem_of_getElem? (i := 19) rfl)))))))))))
theorem bg_0 : sr_big_0.all goodWord = true := by decide +kernel
theorem bg_1 : sr_big_1.all goodWord = true := by decide +kernel
theorem bg_2 : sr_big_2.all goodWord = true := by decide +kernel
theorem bg_3 : sr_big_3.all goodWord = true := by decide +kernel
theorem bg_4 : sr_big_4.all goodWord = true := by decide +kernel
theorem bg_5 : sr_big_5.all goodWord = true := by decide +kernel
theorem bg_6 : sr_big_6.all goodWord = true := by decide +kernel
theorem bg_7 : sr_big_7.all goodWord = true := by decide +kernel
theorem bg_8 : sr_big_8.all goodWord = true := by decide +kernel
theorem bg_9 : sr_big_9.all goodWord = true := by decide +kernel
theorem bg_10 : sr_big_10.all goodWord = true := by decide +kernel
theorem bg_all : sr_big.all goodWord = true := by
  unfold sr_big
  simp only [List.all_append, bg_0, bg_1, bg_2, bg_3, bg_4, bg_5, bg_6, bg_7, bg_8, bg_9, bg_10, Bool.and_self]
theorem bg_self : GoodIn sr_big sr_big := goodIn_sub (fun _ h => h) bg_all
theorem bg_of {w : Cond} (h : w ∈ sr_big) : w ∈ sr_big ∧ ((w.onTables && w.keeps) = true ∨ ∃ ty, w = .arrayClass ty) := bg_self w h
theorem bg_V {own C : String} {idx : Nat} {y : MethodName} {c : Cond} (h1 : Cond.methodLink own idx y ∈ sr_big) (h2 : Cond.instanceMethod y ∈ sr_big) (h3 : Cond.selects C y y ∈ sr_big) (h4 : Cond.initialized C ∈ sr_big) (h5 : c ∈ sr_big) : GoodIn sr_big (wsV own idx C y (c :: sr_big)) := by
  intro w hw
  unfold wsV at hw
  simp only [List.cons_append, List.nil_append, List.mem_cons] at hw
  rcases hw with rfl | rfl | rfl | rfl | rfl | h
  · exact bg_of h1
  · exact bg_of h2
  · exact bg_of h3
  · exact bg_of h4
  · exact bg_of h5
  · exact bg_of h
theorem bg_S {own : String} {idx : Nat} {y : MethodName} {c : Cond} (h1 : Cond.methodLink own idx y ∈ sr_big) (h2 : Cond.static y ∈ sr_big) (h3 : Cond.initialized own ∈ sr_big) (h5 : c ∈ sr_big) : GoodIn sr_big (wsS own idx y (c :: sr_big)) := by
  intro w hw
  unfold wsS at hw
  simp only [List.cons_append, List.nil_append, List.mem_cons] at hw
  rcases hw with rfl | rfl | rfl | rfl | h
  · exact bg_of h1
  · exact bg_of h2
  · exact bg_of h3
  · exact bg_of h5
  · exact bg_of h
theorem bg_SS {own : String} {idx : Nat} {y : MethodName} {c : Cond} (h1 : Cond.methodLink own idx y ∈ sr_big) (h2 : Cond.static y ∈ sr_big) (h3 : Cond.initialized y.cls ∈ sr_big) (h5 : c ∈ sr_big) : GoodIn sr_big (va_wsS own idx y (c :: sr_big)) := by
  intro w hw
  unfold va_wsS at hw
  simp only [List.cons_append, List.nil_append, List.mem_cons] at hw
  rcases hw with rfl | rfl | rfl | rfl | h
  · exact bg_of h1
  · exact bg_of h2
  · exact bg_of h3
  · exact bg_of h5
  · exact bg_of h
theorem bg_c {c : Cond} (h5 : c ∈ sr_big) : GoodIn sr_big (c :: sr_big) := by
  intro w hw
  rcases List.mem_cons.mp hw with rfl | h
  · exact bg_of h5
  · exact bg_of h
theorem bg_X : ∀ w ∈ u_ws RX TX 11, w ∈ sr_big := by decide +kernel
theorem bg_M : ∀ w ∈ u_ws RM TM 13, w ∈ sr_big := by decide +kernel
set_option maxRecDepth 20000 in
theorem bt_0 : ∀ w ∈ sr_big_0, w ∈ lw_tbl := by decide +kernel
set_option maxRecDepth 20000 in
theorem bt_1 : ∀ w ∈ sr_big_1, w ∈ lw_tbl := by decide +kernel
set_option maxRecDepth 20000 in
theorem bt_2 : ∀ w ∈ sr_big_2, w ∈ lw_tbl := by decide +kernel
set_option maxRecDepth 20000 in
theorem bt_3 : ∀ w ∈ sr_big_3, w ∈ lw_tbl := by decide +kernel
set_option maxRecDepth 20000 in
theorem bt_4 : ∀ w ∈ sr_big_4, w ∈ lw_tbl := by decide +kernel
set_option maxRecDepth 20000 in
theorem bt_5 : ∀ w ∈ sr_big_5, w ∈ lw_tbl := by decide +kernel
set_option maxRecDepth 20000 in
theorem bt_6 : ∀ w ∈ sr_big_6, w ∈ lw_tbl := by decide +kernel
set_option maxRecDepth 20000 in
theorem bt_7 : ∀ w ∈ sr_big_7, w ∈ lw_tbl := by decide +kernel
set_option maxRecDepth 20000 in
theorem bt_8 : ∀ w ∈ sr_big_8, w ∈ lw_tbl := by decide +kernel
set_option maxRecDepth 20000 in
theorem bt_9 : ∀ w ∈ sr_big_9, w ∈ lw_tbl := by decide +kernel
set_option maxRecDepth 20000 in
theorem bt_10 : ∀ w ∈ sr_big_10, w ∈ lw_tbl := by decide +kernel
theorem bt_all : ∀ w ∈ sr_big, w ∈ lw_tbl := by
  unfold sr_big
  exact List.forall_mem_append.mpr ⟨bt_0, List.forall_mem_append.mpr ⟨bt_1, List.forall_mem_append.mpr ⟨bt_2, List.forall_mem_append.mpr ⟨bt_3, List.forall_mem_append.mpr ⟨bt_4, List.forall_mem_append.mpr ⟨bt_5, List.forall_mem_append.mpr ⟨bt_6, List.forall_mem_append.mpr ⟨bt_7, List.forall_mem_append.mpr ⟨bt_8, List.forall_mem_append.mpr ⟨bt_9, bt_10⟩⟩⟩⟩⟩⟩⟩⟩⟩⟩
end
section
/-! decode rows (written by wip/gen/names.py) -/
theorem dX_chainReached_0 : decode bX_chainReached 0 = .ok (.aload_n 0, 1) := by decide +kernel
theorem dX_chainReached_1 : decode bX_chainReached 1 = .ok (.invokevirtual 138, 3) := by decide +kernel
theorem dX_chainReached_4 : decode bX_chainReached 4 = .ok (.aload_n 0, 1) := by decide +kernel
theorem dX_chainReached_5 : decode bX_chainReached 5 = .ok (.iconst 0, 1) := by decide +kernel
theorem dX_chainReached_6 : decode bX_chainReached 6 = .ok (.putfield 141, 3) := by decide +kernel
theorem dX_chainReached_9 : decode bX_chainReached 9 = .ok (.aload_n 0, 1) := by decide +kernel
theorem dX_chainReached_10 : decode bX_chainReached 10 = .ok (.iconst 0, 1) := by decide +kernel
theorem dX_chainReached_11 : decode bX_chainReached 11 = .ok (.putfield 144, 3) := by decide +kernel
theorem dX_chainReached_14 : decode bX_chainReached 14 = .ok (.aload_n 0, 1) := by decide +kernel
theorem dX_chainReached_15 : decode bX_chainReached 15 = .ok (.iconst 0, 1) := by decide +kernel
theorem dX_chainReached_16 : decode bX_chainReached 16 = .ok (.putfield 92, 3) := by decide +kernel
theorem dX_chainReached_19 : decode bX_chainReached 19 = .ok (.iconst 0, 1) := by decide +kernel
theorem dX_chainReached_20 : decode bX_chainReached 20 = .ok (.istore_n 1, 1) := by decide +kernel
theorem dX_chainReached_21 : decode bX_chainReached 21 = .ok (.iload_n 1, 1) := by decide +kernel
theorem dX_chainReached_22 : decode bX_chainReached 22 = .ok (.aload_n 0, 1) := by decide +kernel
theorem dX_chainReached_23 : decode bX_chainReached 23 = .ok (.getfield 9, 3) := by decide +kernel
theorem dX_chainReached_26 : decode bX_chainReached 26 = .ok (.arraylength, 1) := by decide +kernel
theorem dX_chainReached_27 : decode bX_chainReached 27 = .ok (.if_icmp .ge 19, 3) := by decide +kernel
theorem dX_chainReached_30 : decode bX_chainReached 30 = .ok (.aload_n 0, 1) := by decide +kernel
theorem dX_chainReached_31 : decode bX_chainReached 31 = .ok (.aload_n 0, 1) := by decide +kernel
theorem dX_chainReached_32 : decode bX_chainReached 32 = .ok (.getfield 9, 3) := by decide +kernel
theorem dX_chainReached_35 : decode bX_chainReached 35 = .ok (.iload_n 1, 1) := by decide +kernel
theorem dX_chainReached_36 : decode bX_chainReached 36 = .ok (.iaload, 1) := by decide +kernel
theorem dX_chainReached_37 : decode bX_chainReached 37 = .ok (.invokevirtual 147, 3) := by decide +kernel
theorem dX_chainReached_40 : decode bX_chainReached 40 = .ok (.iinc 1 1, 3) := by decide +kernel
theorem dX_chainReached_43 : decode bX_chainReached 43 = .ok (.goto (-22), 3) := by decide +kernel
theorem dX_chainReached_46 : decode bX_chainReached 46 = .ok (.aload_n 0, 1) := by decide +kernel
theorem dX_chainReached_47 : decode bX_chainReached 47 = .ok (.getfield 141, 3) := by decide +kernel
theorem dX_chainReached_50 : decode bX_chainReached 50 = .ok (.istore_n 1, 1) := by decide +kernel
theorem dX_chainReached_51 : decode bX_chainReached 51 = .ok (.iconst 0, 1) := by decide +kernel
theorem dX_chainReached_52 : decode bX_chainReached 52 = .ok (.istore_n 2, 1) := by decide +kernel
theorem dX_chainReached_53 : decode bX_chainReached 53 = .ok (.iload_n 2, 1) := by decide +kernel
theorem dX_chainReached_54 : decode bX_chainReached 54 = .ok (.aload_n 0, 1) := by decide +kernel
theorem dX_chainReached_55 : decode bX_chainReached 55 = .ok (.getfield 46, 3) := by decide +kernel
theorem dX_chainReached_58 : decode bX_chainReached 58 = .ok (.if_icmp .ge 26, 3) := by decide +kernel
theorem dX_chainReached_61 : decode bX_chainReached 61 = .ok (.iload_n 1, 1) := by decide +kernel
theorem dX_chainReached_62 : decode bX_chainReached 62 = .ok (.ifCond .le 22, 3) := by decide +kernel
theorem dX_chainReached_65 : decode bX_chainReached 65 = .ok (.aload_n 0, 1) := by decide +kernel
theorem dX_chainReached_66 : decode bX_chainReached 66 = .ok (.iload_n 1, 1) := by decide +kernel
theorem dX_chainReached_67 : decode bX_chainReached 67 = .ok (.invokevirtual 150, 3) := by decide +kernel
theorem dX_chainReached_70 : decode bX_chainReached 70 = .ok (.aload_n 0, 1) := by decide +kernel
theorem dX_chainReached_71 : decode bX_chainReached 71 = .ok (.iload_n 1, 1) := by decide +kernel
theorem dX_chainReached_72 : decode bX_chainReached 72 = .ok (.iconst 2, 1) := by decide +kernel
theorem dX_chainReached_73 : decode bX_chainReached 73 = .ok (.iadd, 1) := by decide +kernel
theorem dX_chainReached_74 : decode bX_chainReached 74 = .ok (.invokevirtual 60, 3) := by decide +kernel
theorem dX_chainReached_77 : decode bX_chainReached 77 = .ok (.istore_n 1, 1) := by decide +kernel
theorem dX_chainReached_78 : decode bX_chainReached 78 = .ok (.iinc 2 1, 3) := by decide +kernel
theorem dX_chainReached_81 : decode bX_chainReached 81 = .ok (.goto (-28), 3) := by decide +kernel
theorem dX_chainReached_84 : decode bX_chainReached 84 = .ok (.return_, 1) := by decide +kernel
theorem dX_choosePlaces_0 : decode bX_choosePlaces 0 = .ok (.iconst 0, 1) := by decide +kernel
theorem dX_choosePlaces_1 : decode bX_choosePlaces 1 = .ok (.istore_n 1, 1) := by decide +kernel
theorem dX_choosePlaces_2 : decode bX_choosePlaces 2 = .ok (.iconst 1, 1) := by decide +kernel
theorem dX_choosePlaces_3 : decode bX_choosePlaces 3 = .ok (.istore_n 2, 1) := by decide +kernel
theorem dX_choosePlaces_4 : decode bX_choosePlaces 4 = .ok (.iconst 0, 1) := by decide +kernel
theorem dX_choosePlaces_5 : decode bX_choosePlaces 5 = .ok (.istore_n 3, 1) := by decide +kernel
theorem dX_choosePlaces_6 : decode bX_choosePlaces 6 = .ok (.iload_n 3, 1) := by decide +kernel
theorem dX_choosePlaces_7 : decode bX_choosePlaces 7 = .ok (.aload_n 0, 1) := by decide +kernel
theorem dX_choosePlaces_8 : decode bX_choosePlaces 8 = .ok (.getfield 46, 3) := by decide +kernel
theorem dX_choosePlaces_11 : decode bX_choosePlaces 11 = .ok (.if_icmp .ge 46, 3) := by decide +kernel
theorem dX_choosePlaces_14 : decode bX_choosePlaces 14 = .ok (.aload_n 0, 1) := by decide +kernel
theorem dX_choosePlaces_15 : decode bX_choosePlaces 15 = .ok (.iload_n 2, 1) := by decide +kernel
theorem dX_choosePlaces_16 : decode bX_choosePlaces 16 = .ok (.invokevirtual 101, 3) := by decide +kernel
theorem dX_choosePlaces_19 : decode bX_choosePlaces 19 = .ok (.istore 4, 2) := by decide +kernel
theorem dX_choosePlaces_21 : decode bX_choosePlaces 21 = .ok (.aload_n 0, 1) := by decide +kernel
theorem dX_choosePlaces_22 : decode bX_choosePlaces 22 = .ok (.iload_n 2, 1) := by decide +kernel
theorem dX_choosePlaces_23 : decode bX_choosePlaces 23 = .ok (.iconst 2, 1) := by decide +kernel
theorem dX_choosePlaces_24 : decode bX_choosePlaces 24 = .ok (.iadd, 1) := by decide +kernel
theorem dX_choosePlaces_25 : decode bX_choosePlaces 25 = .ok (.invokevirtual 60, 3) := by decide +kernel
theorem dX_choosePlaces_28 : decode bX_choosePlaces 28 = .ok (.ifCond .eq 18, 3) := by decide +kernel
theorem dX_choosePlaces_31 : decode bX_choosePlaces 31 = .ok (.aload_n 0, 1) := by decide +kernel
theorem dX_choosePlaces_32 : decode bX_choosePlaces 32 = .ok (.iload_n 2, 1) := by decide +kernel
theorem dX_choosePlaces_33 : decode bX_choosePlaces 33 = .ok (.iconst 2, 1) := by decide +kernel
theorem dX_choosePlaces_34 : decode bX_choosePlaces 34 = .ok (.iadd, 1) := by decide +kernel
theorem dX_choosePlaces_35 : decode bX_choosePlaces 35 = .ok (.iconst 1, 1) := by decide +kernel
theorem dX_choosePlaces_36 : decode bX_choosePlaces 36 = .ok (.iload_n 1, 1) := by decide +kernel
theorem dX_choosePlaces_37 : decode bX_choosePlaces 37 = .ok (.iadd, 1) := by decide +kernel
theorem dX_choosePlaces_38 : decode bX_choosePlaces 38 = .ok (.invokevirtual 43, 3) := by decide +kernel
theorem dX_choosePlaces_41 : decode bX_choosePlaces 41 = .ok (.iload_n 1, 1) := by decide +kernel
theorem dX_choosePlaces_42 : decode bX_choosePlaces 42 = .ok (.iload 4, 2) := by decide +kernel
theorem dX_choosePlaces_44 : decode bX_choosePlaces 44 = .ok (.iadd, 1) := by decide +kernel
theorem dX_choosePlaces_45 : decode bX_choosePlaces 45 = .ok (.istore_n 1, 1) := by decide +kernel
theorem dX_choosePlaces_46 : decode bX_choosePlaces 46 = .ok (.iload_n 2, 1) := by decide +kernel
theorem dX_choosePlaces_47 : decode bX_choosePlaces 47 = .ok (.iload 4, 2) := by decide +kernel
theorem dX_choosePlaces_49 : decode bX_choosePlaces 49 = .ok (.iadd, 1) := by decide +kernel
theorem dX_choosePlaces_50 : decode bX_choosePlaces 50 = .ok (.istore_n 2, 1) := by decide +kernel
theorem dX_choosePlaces_51 : decode bX_choosePlaces 51 = .ok (.iinc 3 1, 3) := by decide +kernel
theorem dX_choosePlaces_54 : decode bX_choosePlaces 54 = .ok (.goto (-48), 3) := by decide +kernel
theorem dX_choosePlaces_57 : decode bX_choosePlaces 57 = .ok (.iload_n 1, 1) := by decide +kernel
theorem dX_choosePlaces_58 : decode bX_choosePlaces 58 = .ok (.ireturn, 1) := by decide +kernel
theorem dX_clearCells_0 : decode bX_clearCells 0 = .ok (.iconst 0, 1) := by decide +kernel
theorem dX_clearCells_1 : decode bX_clearCells 1 = .ok (.istore_n 3, 1) := by decide +kernel
theorem dX_clearCells_2 : decode bX_clearCells 2 = .ok (.iload_n 3, 1) := by decide +kernel
theorem dX_clearCells_3 : decode bX_clearCells 3 = .ok (.iload_n 2, 1) := by decide +kernel
theorem dX_clearCells_4 : decode bX_clearCells 4 = .ok (.if_icmp .ge 17, 3) := by decide +kernel
theorem dX_clearCells_7 : decode bX_clearCells 7 = .ok (.aload_n 0, 1) := by decide +kernel
theorem dX_clearCells_8 : decode bX_clearCells 8 = .ok (.iload_n 1, 1) := by decide +kernel
theorem dX_clearCells_9 : decode bX_clearCells 9 = .ok (.iload_n 3, 1) := by decide +kernel
theorem dX_clearCells_10 : decode bX_clearCells 10 = .ok (.iadd, 1) := by decide +kernel
theorem dX_clearCells_11 : decode bX_clearCells 11 = .ok (.iconst 0, 1) := by decide +kernel
theorem dX_clearCells_12 : decode bX_clearCells 12 = .ok (.invokevirtual 43, 3) := by decide +kernel
theorem dX_clearCells_15 : decode bX_clearCells 15 = .ok (.iinc 3 1, 3) := by decide +kernel
theorem dX_clearCells_18 : decode bX_clearCells 18 = .ok (.goto (-16), 3) := by decide +kernel
theorem dX_clearCells_21 : decode bX_clearCells 21 = .ok (.return_, 1) := by decide +kernel
theorem dX_clearLinks_0 : decode bX_clearLinks 0 = .ok (.iconst 1, 1) := by decide +kernel
theorem dX_clearLinks_1 : decode bX_clearLinks 1 = .ok (.istore_n 1, 1) := by decide +kernel
theorem dX_clearLinks_2 : decode bX_clearLinks 2 = .ok (.iconst 0, 1) := by decide +kernel
theorem dX_clearLinks_3 : decode bX_clearLinks 3 = .ok (.istore_n 2, 1) := by decide +kernel
theorem dX_clearLinks_4 : decode bX_clearLinks 4 = .ok (.iload_n 2, 1) := by decide +kernel
theorem dX_clearLinks_5 : decode bX_clearLinks 5 = .ok (.aload_n 0, 1) := by decide +kernel
theorem dX_clearLinks_6 : decode bX_clearLinks 6 = .ok (.getfield 46, 3) := by decide +kernel
theorem dX_clearLinks_9 : decode bX_clearLinks 9 = .ok (.if_icmp .ge 25, 3) := by decide +kernel
theorem dX_clearLinks_12 : decode bX_clearLinks 12 = .ok (.aload_n 0, 1) := by decide +kernel
theorem dX_clearLinks_13 : decode bX_clearLinks 13 = .ok (.iload_n 1, 1) := by decide +kernel
theorem dX_clearLinks_14 : decode bX_clearLinks 14 = .ok (.iconst 2, 1) := by decide +kernel
theorem dX_clearLinks_15 : decode bX_clearLinks 15 = .ok (.iadd, 1) := by decide +kernel
theorem dX_clearLinks_16 : decode bX_clearLinks 16 = .ok (.iconst 0, 1) := by decide +kernel
theorem dX_clearLinks_17 : decode bX_clearLinks 17 = .ok (.invokevirtual 43, 3) := by decide +kernel
theorem dX_clearLinks_20 : decode bX_clearLinks 20 = .ok (.iload_n 1, 1) := by decide +kernel
theorem dX_clearLinks_21 : decode bX_clearLinks 21 = .ok (.aload_n 0, 1) := by decide +kernel
theorem dX_clearLinks_22 : decode bX_clearLinks 22 = .ok (.iload_n 1, 1) := by decide +kernel
theorem dX_clearLinks_23 : decode bX_clearLinks 23 = .ok (.invokevirtual 101, 3) := by decide +kernel
theorem dX_clearLinks_26 : decode bX_clearLinks 26 = .ok (.iadd, 1) := by decide +kernel
theorem dX_clearLinks_27 : decode bX_clearLinks 27 = .ok (.istore_n 1, 1) := by decide +kernel
theorem dX_clearLinks_28 : decode bX_clearLinks 28 = .ok (.iinc 2 1, 3) := by decide +kernel
theorem dX_clearLinks_31 : decode bX_clearLinks 31 = .ok (.goto (-27), 3) := by decide +kernel
theorem dX_clearLinks_34 : decode bX_clearLinks 34 = .ok (.return_, 1) := by decide +kernel
theorem dX_count_0 : decode bX_count 0 = .ok (.iload_n 1, 1) := by decide +kernel
theorem dX_count_1 : decode bX_count 1 = .ok (.tableswitch 82 0 6 #[43, 48, 53, 62, 67, 72, 77], 43) := by decide +kernel
theorem dX_count_44 : decode bX_count 44 = .ok (.aload_n 0, 1) := by decide +kernel
theorem dX_count_45 : decode bX_count 45 = .ok (.getfield 46, 3) := by decide +kernel
theorem dX_count_48 : decode bX_count 48 = .ok (.ireturn, 1) := by decide +kernel
theorem dX_count_49 : decode bX_count 49 = .ok (.aload_n 0, 1) := by decide +kernel
theorem dX_count_50 : decode bX_count 50 = .ok (.getfield 36, 3) := by decide +kernel
theorem dX_count_53 : decode bX_count 53 = .ok (.ireturn, 1) := by decide +kernel
theorem dX_count_54 : decode bX_count 54 = .ok (.aload_n 0, 1) := by decide +kernel
theorem dX_count_55 : decode bX_count 55 = .ok (.invokevirtual 70, 3) := by decide +kernel
theorem dX_count_58 : decode bX_count 58 = .ok (.aload_n 0, 1) := by decide +kernel
theorem dX_count_59 : decode bX_count 59 = .ok (.getfield 92, 3) := by decide +kernel
theorem dX_count_62 : decode bX_count 62 = .ok (.ireturn, 1) := by decide +kernel
theorem dX_count_63 : decode bX_count 63 = .ok (.aload_n 0, 1) := by decide +kernel
theorem dX_count_64 : decode bX_count 64 = .ok (.getfield 86, 3) := by decide +kernel
theorem dX_count_67 : decode bX_count 67 = .ok (.ireturn, 1) := by decide +kernel
theorem dX_count_68 : decode bX_count 68 = .ok (.aload_n 0, 1) := by decide +kernel
theorem dX_count_69 : decode bX_count 69 = .ok (.getfield 89, 3) := by decide +kernel
theorem dX_count_72 : decode bX_count 72 = .ok (.ireturn, 1) := by decide +kernel
theorem dX_count_73 : decode bX_count 73 = .ok (.aload_n 0, 1) := by decide +kernel
theorem dX_count_74 : decode bX_count 74 = .ok (.getfield 98, 3) := by decide +kernel
theorem dX_count_77 : decode bX_count 77 = .ok (.ireturn, 1) := by decide +kernel
theorem dX_count_78 : decode bX_count 78 = .ok (.aload_n 0, 1) := by decide +kernel
theorem dX_count_79 : decode bX_count 79 = .ok (.getfield 16, 3) := by decide +kernel
theorem dX_count_82 : decode bX_count 82 = .ok (.ireturn, 1) := by decide +kernel
theorem dX_count_83 : decode bX_count 83 = .ok (.new 20, 3) := by decide +kernel
theorem dX_count_86 : decode bX_count 86 = .ok (.dup, 1) := by decide +kernel
theorem dX_count_87 : decode bX_count 87 = .ok (.ldc 104, 2) := by decide +kernel
theorem dX_count_89 : decode bX_count 89 = .ok (.invokespecial 24, 3) := by decide +kernel
theorem dX_count_92 : decode bX_count 92 = .ok (.athrow, 1) := by decide +kernel
theorem dX_fieldCell_0 : decode bX_fieldCell 0 = .ok (.aload_n 0, 1) := by decide +kernel
theorem dX_fieldCell_1 : decode bX_fieldCell 1 = .ok (.iload_n 1, 1) := by decide +kernel
theorem dX_fieldCell_2 : decode bX_fieldCell 2 = .ok (.invokevirtual 95, 3) := by decide +kernel
theorem dX_fieldCell_5 : decode bX_fieldCell 5 = .ok (.iload_n 2, 1) := by decide +kernel
theorem dX_fieldCell_6 : decode bX_fieldCell 6 = .ok (.ifCond .lt 12, 3) := by decide +kernel
theorem dX_fieldCell_9 : decode bX_fieldCell 9 = .ok (.iload_n 2, 1) := by decide +kernel
theorem dX_fieldCell_10 : decode bX_fieldCell 10 = .ok (.aload_n 0, 1) := by decide +kernel
theorem dX_fieldCell_11 : decode bX_fieldCell 11 = .ok (.iload_n 1, 1) := by decide +kernel
theorem dX_fieldCell_12 : decode bX_fieldCell 12 = .ok (.invokevirtual 122, 3) := by decide +kernel
theorem dX_fieldCell_15 : decode bX_fieldCell 15 = .ok (.if_icmp .lt 13, 3) := by decide +kernel
theorem dX_fieldCell_18 : decode bX_fieldCell 18 = .ok (.new 112, 3) := by decide +kernel
theorem dX_fieldCell_21 : decode bX_fieldCell 21 = .ok (.dup, 1) := by decide +kernel
theorem dX_fieldCell_22 : decode bX_fieldCell 22 = .ok (.ldc 125, 2) := by decide +kernel
theorem dX_fieldCell_24 : decode bX_fieldCell 24 = .ok (.invokespecial 116, 3) := by decide +kernel
theorem dX_fieldCell_27 : decode bX_fieldCell 27 = .ok (.athrow, 1) := by decide +kernel
theorem dX_fieldCell_28 : decode bX_fieldCell 28 = .ok (.iload_n 1, 1) := by decide +kernel
theorem dX_fieldCell_29 : decode bX_fieldCell 29 = .ok (.iconst 3, 1) := by decide +kernel
theorem dX_fieldCell_30 : decode bX_fieldCell 30 = .ok (.iadd, 1) := by decide +kernel
theorem dX_fieldCell_31 : decode bX_fieldCell 31 = .ok (.iload_n 2, 1) := by decide +kernel
theorem dX_fieldCell_32 : decode bX_fieldCell 32 = .ok (.iadd, 1) := by decide +kernel
theorem dX_fieldCell_33 : decode bX_fieldCell 33 = .ok (.ireturn, 1) := by decide +kernel
theorem dX_fieldsOf_0 : decode bX_fieldsOf 0 = .ok (.aload_n 0, 1) := by decide +kernel
theorem dX_fieldsOf_1 : decode bX_fieldsOf 1 = .ok (.iload_n 1, 1) := by decide +kernel
theorem dX_fieldsOf_2 : decode bX_fieldsOf 2 = .ok (.iconst 0, 1) := by decide +kernel
theorem dX_fieldsOf_3 : decode bX_fieldsOf 3 = .ok (.iadd, 1) := by decide +kernel
theorem dX_fieldsOf_4 : decode bX_fieldsOf 4 = .ok (.invokevirtual 60, 3) := by decide +kernel
theorem dX_fieldsOf_7 : decode bX_fieldsOf 7 = .ok (.bipush 12, 2) := by decide +kernel
theorem dX_fieldsOf_9 : decode bX_fieldsOf 9 = .ok (.ishr, 1) := by decide +kernel
theorem dX_fieldsOf_10 : decode bX_fieldsOf 10 = .ok (.ireturn, 1) := by decide +kernel
theorem dX_find_0 : decode bX_find 0 = .ok (.iload_n 1, 1) := by decide +kernel
theorem dX_find_1 : decode bX_find 1 = .ok (.ifCond .lt 11, 3) := by decide +kernel
theorem dX_find_4 : decode bX_find 4 = .ok (.iload_n 1, 1) := by decide +kernel
theorem dX_find_5 : decode bX_find 5 = .ok (.aload_n 0, 1) := by decide +kernel
theorem dX_find_6 : decode bX_find 6 = .ok (.getfield 98, 3) := by decide +kernel
theorem dX_find_9 : decode bX_find 9 = .ok (.if_icmp .lt 5, 3) := by decide +kernel
theorem dX_find_12 : decode bX_find 12 = .ok (.iconst 0, 1) := by decide +kernel
theorem dX_find_13 : decode bX_find 13 = .ok (.ireturn, 1) := by decide +kernel
theorem dX_find_14 : decode bX_find 14 = .ok (.iconst 1, 1) := by decide +kernel
theorem dX_find_15 : decode bX_find 15 = .ok (.istore_n 2, 1) := by decide +kernel
theorem dX_find_16 : decode bX_find 16 = .ok (.iconst 0, 1) := by decide +kernel
theorem dX_find_17 : decode bX_find 17 = .ok (.istore_n 3, 1) := by decide +kernel
theorem dX_find_18 : decode bX_find 18 = .ok (.iload_n 3, 1) := by decide +kernel
theorem dX_find_19 : decode bX_find 19 = .ok (.aload_n 0, 1) := by decide +kernel
theorem dX_find_20 : decode bX_find 20 = .ok (.getfield 46, 3) := by decide +kernel
theorem dX_find_23 : decode bX_find 23 = .ok (.if_icmp .ge 32, 3) := by decide +kernel
theorem dX_find_26 : decode bX_find 26 = .ok (.aload_n 0, 1) := by decide +kernel
theorem dX_find_27 : decode bX_find 27 = .ok (.iload_n 2, 1) := by decide +kernel
theorem dX_find_28 : decode bX_find 28 = .ok (.iconst 1, 1) := by decide +kernel
theorem dX_find_29 : decode bX_find 29 = .ok (.iadd, 1) := by decide +kernel
theorem dX_find_30 : decode bX_find 30 = .ok (.invokevirtual 60, 3) := by decide +kernel
theorem dX_find_33 : decode bX_find 33 = .ok (.iconst 1, 1) := by decide +kernel
theorem dX_find_34 : decode bX_find 34 = .ok (.isub, 1) := by decide +kernel
theorem dX_find_35 : decode bX_find 35 = .ok (.iload_n 1, 1) := by decide +kernel
theorem dX_find_36 : decode bX_find 36 = .ok (.if_icmp .ne 5, 3) := by decide +kernel
theorem dX_find_39 : decode bX_find 39 = .ok (.iload_n 2, 1) := by decide +kernel
theorem dX_find_40 : decode bX_find 40 = .ok (.ireturn, 1) := by decide +kernel
theorem dX_find_41 : decode bX_find 41 = .ok (.iload_n 2, 1) := by decide +kernel
theorem dX_find_42 : decode bX_find 42 = .ok (.aload_n 0, 1) := by decide +kernel
theorem dX_find_43 : decode bX_find 43 = .ok (.iload_n 2, 1) := by decide +kernel
theorem dX_find_44 : decode bX_find 44 = .ok (.invokevirtual 101, 3) := by decide +kernel
theorem dX_find_47 : decode bX_find 47 = .ok (.iadd, 1) := by decide +kernel
theorem dX_find_48 : decode bX_find 48 = .ok (.istore_n 2, 1) := by decide +kernel
theorem dX_find_49 : decode bX_find 49 = .ok (.iinc 3 1, 3) := by decide +kernel
theorem dX_find_52 : decode bX_find 52 = .ok (.goto (-34), 3) := by decide +kernel
theorem dX_find_55 : decode bX_find 55 = .ok (.iconst 0, 1) := by decide +kernel
theorem dX_find_56 : decode bX_find 56 = .ok (.ireturn, 1) := by decide +kernel
theorem dX_forgetAll_0 : decode bX_forgetAll 0 = .ok (.aload_n 0, 1) := by decide +kernel
theorem dX_forgetAll_1 : decode bX_forgetAll 1 = .ok (.getfield 9, 3) := by decide +kernel
theorem dX_forgetAll_4 : decode bX_forgetAll 4 = .ok (.iconst 0, 1) := by decide +kernel
theorem dX_forgetAll_5 : decode bX_forgetAll 5 = .ok (.invokestatic 106, 3) := by decide +kernel
theorem dX_forgetAll_8 : decode bX_forgetAll 8 = .ok (.aload_n 0, 1) := by decide +kernel
theorem dX_forgetAll_9 : decode bX_forgetAll 9 = .ok (.iconst 0, 1) := by decide +kernel
theorem dX_forgetAll_10 : decode bX_forgetAll 10 = .ok (.putfield 36, 3) := by decide +kernel
theorem dX_forgetAll_13 : decode bX_forgetAll 13 = .ok (.aload_n 0, 1) := by decide +kernel
theorem dX_forgetAll_14 : decode bX_forgetAll 14 = .ok (.iconst 0, 1) := by decide +kernel
theorem dX_forgetAll_15 : decode bX_forgetAll 15 = .ok (.putfield 46, 3) := by decide +kernel
theorem dX_forgetAll_18 : decode bX_forgetAll 18 = .ok (.aload_n 0, 1) := by decide +kernel
theorem dX_forgetAll_19 : decode bX_forgetAll 19 = .ok (.iconst 0, 1) := by decide +kernel
theorem dX_forgetAll_20 : decode bX_forgetAll 20 = .ok (.putfield 86, 3) := by decide +kernel
theorem dX_forgetAll_23 : decode bX_forgetAll 23 = .ok (.aload_n 0, 1) := by decide +kernel
theorem dX_forgetAll_24 : decode bX_forgetAll 24 = .ok (.iconst 0, 1) := by decide +kernel
theorem dX_forgetAll_25 : decode bX_forgetAll 25 = .ok (.putfield 89, 3) := by decide +kernel
theorem dX_forgetAll_28 : decode bX_forgetAll 28 = .ok (.aload_n 0, 1) := by decide +kernel
theorem dX_forgetAll_29 : decode bX_forgetAll 29 = .ok (.iconst 0, 1) := by decide +kernel
theorem dX_forgetAll_30 : decode bX_forgetAll 30 = .ok (.putfield 98, 3) := by decide +kernel
theorem dX_forgetAll_33 : decode bX_forgetAll 33 = .ok (.return_, 1) := by decide +kernel
theorem dX_get_0 : decode bX_get 0 = .ok (.aload_n 0, 1) := by decide +kernel
theorem dX_get_1 : decode bX_get 1 = .ok (.aload_n 0, 1) := by decide +kernel
theorem dX_get_2 : decode bX_get 2 = .ok (.iload_n 1, 1) := by decide +kernel
theorem dX_get_3 : decode bX_get 3 = .ok (.iload_n 2, 1) := by decide +kernel
theorem dX_get_4 : decode bX_get 4 = .ok (.invokevirtual 49, 3) := by decide +kernel
theorem dX_get_7 : decode bX_get 7 = .ok (.invokevirtual 60, 3) := by decide +kernel
theorem dX_get_10 : decode bX_get 10 = .ok (.ireturn, 1) := by decide +kernel
theorem dX_init_0 : decode bX_init 0 = .ok (.aload_n 0, 1) := by decide +kernel
theorem dX_init_1 : decode bX_init 1 = .ok (.invokespecial 3, 3) := by decide +kernel
theorem dX_init_4 : decode bX_init 4 = .ok (.aload_n 0, 1) := by decide +kernel
theorem dX_init_5 : decode bX_init 5 = .ok (.bipush 16, 2) := by decide +kernel
theorem dX_init_7 : decode bX_init 7 = .ok (.newarray .int, 2) := by decide +kernel
theorem dX_init_9 : decode bX_init 9 = .ok (.putfield 9, 3) := by decide +kernel
theorem dX_init_12 : decode bX_init 12 = .ok (.aload_n 0, 1) := by decide +kernel
theorem dX_init_13 : decode bX_init 13 = .ok (.sipush 2049, 3) := by decide +kernel
theorem dX_init_16 : decode bX_init 16 = .ok (.newarray .int, 2) := by decide +kernel
theorem dX_init_18 : decode bX_init 18 = .ok (.putfield 13, 3) := by decide +kernel
theorem dX_init_21 : decode bX_init 21 = .ok (.aload_n 0, 1) := by decide +kernel
theorem dX_init_22 : decode bX_init 22 = .ok (.sipush 2048, 3) := by decide +kernel
theorem dX_init_25 : decode bX_init 25 = .ok (.putfield 16, 3) := by decide +kernel
theorem dX_init_28 : decode bX_init 28 = .ok (.return_, 1) := by decide +kernel
theorem dX_isObject_0 : decode bX_isObject 0 = .ok (.iconst 1, 1) := by decide +kernel
theorem dX_isObject_1 : decode bX_isObject 1 = .ok (.istore_n 2, 1) := by decide +kernel
theorem dX_isObject_2 : decode bX_isObject 2 = .ok (.iconst 0, 1) := by decide +kernel
theorem dX_isObject_3 : decode bX_isObject 3 = .ok (.istore_n 3, 1) := by decide +kernel
theorem dX_isObject_4 : decode bX_isObject 4 = .ok (.iload_n 3, 1) := by decide +kernel
theorem dX_isObject_5 : decode bX_isObject 5 = .ok (.aload_n 0, 1) := by decide +kernel
theorem dX_isObject_6 : decode bX_isObject 6 = .ok (.getfield 46, 3) := by decide +kernel
theorem dX_isObject_9 : decode bX_isObject 9 = .ok (.if_icmp .ge 29, 3) := by decide +kernel
theorem dX_isObject_12 : decode bX_isObject 12 = .ok (.iload_n 2, 1) := by decide +kernel
theorem dX_isObject_13 : decode bX_isObject 13 = .ok (.iload_n 1, 1) := by decide +kernel
theorem dX_isObject_14 : decode bX_isObject 14 = .ok (.if_icmp .gt 24, 3) := by decide +kernel
theorem dX_isObject_17 : decode bX_isObject 17 = .ok (.iload_n 2, 1) := by decide +kernel
theorem dX_isObject_18 : decode bX_isObject 18 = .ok (.iload_n 1, 1) := by decide +kernel
theorem dX_isObject_19 : decode bX_isObject 19 = .ok (.if_icmp .ne 5, 3) := by decide +kernel
theorem dX_isObject_22 : decode bX_isObject 22 = .ok (.iconst 1, 1) := by decide +kernel
theorem dX_isObject_23 : decode bX_isObject 23 = .ok (.ireturn, 1) := by decide +kernel
theorem dX_isObject_24 : decode bX_isObject 24 = .ok (.iload_n 2, 1) := by decide +kernel
theorem dX_isObject_25 : decode bX_isObject 25 = .ok (.aload_n 0, 1) := by decide +kernel
theorem dX_isObject_26 : decode bX_isObject 26 = .ok (.iload_n 2, 1) := by decide +kernel
theorem dX_isObject_27 : decode bX_isObject 27 = .ok (.invokevirtual 101, 3) := by decide +kernel
theorem dX_isObject_30 : decode bX_isObject 30 = .ok (.iadd, 1) := by decide +kernel
theorem dX_isObject_31 : decode bX_isObject 31 = .ok (.istore_n 2, 1) := by decide +kernel
theorem dX_isObject_32 : decode bX_isObject 32 = .ok (.iinc 3 1, 3) := by decide +kernel
theorem dX_isObject_35 : decode bX_isObject 35 = .ok (.goto (-31), 3) := by decide +kernel
theorem dX_isObject_38 : decode bX_isObject 38 = .ok (.iconst 0, 1) := by decide +kernel
theorem dX_isObject_39 : decode bX_isObject 39 = .ok (.ireturn, 1) := by decide +kernel
theorem dX_isPartCount_0 : decode bX_isPartCount 0 = .ok (.iload_n 0, 1) := by decide +kernel
theorem dX_isPartCount_1 : decode bX_isPartCount 1 = .ok (.ifCond .lt 14, 3) := by decide +kernel
theorem dX_isPartCount_4 : decode bX_isPartCount 4 = .ok (.iload_n 0, 1) := by decide +kernel
theorem dX_isPartCount_5 : decode bX_isPartCount 5 = .ok (.sipush 2000, 3) := by decide +kernel
theorem dX_isPartCount_8 : decode bX_isPartCount 8 = .ok (.if_icmp .gt 7, 3) := by decide +kernel
theorem dX_isPartCount_11 : decode bX_isPartCount 11 = .ok (.iconst 1, 1) := by decide +kernel
theorem dX_isPartCount_12 : decode bX_isPartCount 12 = .ok (.goto 4, 3) := by decide +kernel
theorem dX_isPartCount_15 : decode bX_isPartCount 15 = .ok (.iconst 0, 1) := by decide +kernel
theorem dX_isPartCount_16 : decode bX_isPartCount 16 = .ok (.ireturn, 1) := by decide +kernel
theorem dX_make_0 : decode bX_make 0 = .ok (.iload_n 1, 1) := by decide +kernel
theorem dX_make_1 : decode bX_make 1 = .ok (.invokestatic 30, 3) := by decide +kernel
theorem dX_make_4 : decode bX_make 4 = .ok (.ifCond .eq 10, 3) := by decide +kernel
theorem dX_make_7 : decode bX_make 7 = .ok (.iload_n 2, 1) := by decide +kernel
theorem dX_make_8 : decode bX_make 8 = .ok (.invokestatic 30, 3) := by decide +kernel
theorem dX_make_11 : decode bX_make 11 = .ok (.ifCond .ne 13, 3) := by decide +kernel
theorem dX_make_14 : decode bX_make 14 = .ok (.new 20, 3) := by decide +kernel
theorem dX_make_17 : decode bX_make 17 = .ok (.dup, 1) := by decide +kernel
theorem dX_make_18 : decode bX_make 18 = .ok (.ldc 34, 2) := by decide +kernel
theorem dX_make_20 : decode bX_make 20 = .ok (.invokespecial 24, 3) := by decide +kernel
theorem dX_make_23 : decode bX_make 23 = .ok (.athrow, 1) := by decide +kernel
theorem dX_make_24 : decode bX_make 24 = .ok (.iconst 3, 1) := by decide +kernel
theorem dX_make_25 : decode bX_make 25 = .ok (.iload_n 1, 1) := by decide +kernel
theorem dX_make_26 : decode bX_make 26 = .ok (.iadd, 1) := by decide +kernel
theorem dX_make_27 : decode bX_make 27 = .ok (.iload_n 2, 1) := by decide +kernel
theorem dX_make_28 : decode bX_make 28 = .ok (.iadd, 1) := by decide +kernel
theorem dX_make_29 : decode bX_make 29 = .ok (.istore_n 3, 1) := by decide +kernel
theorem dX_make_30 : decode bX_make 30 = .ok (.iload_n 3, 1) := by decide +kernel
theorem dX_make_31 : decode bX_make 31 = .ok (.aload_n 0, 1) := by decide +kernel
theorem dX_make_32 : decode bX_make 32 = .ok (.getfield 16, 3) := by decide +kernel
theorem dX_make_35 : decode bX_make 35 = .ok (.aload_n 0, 1) := by decide +kernel
theorem dX_make_36 : decode bX_make 36 = .ok (.getfield 36, 3) := by decide +kernel
theorem dX_make_39 : decode bX_make 39 = .ok (.isub, 1) := by decide +kernel
theorem dX_make_40 : decode bX_make 40 = .ok (.if_icmp .le 5, 3) := by decide +kernel
theorem dX_make_43 : decode bX_make 43 = .ok (.iconst 0, 1) := by decide +kernel
theorem dX_make_44 : decode bX_make 44 = .ok (.ireturn, 1) := by decide +kernel
theorem dX_make_45 : decode bX_make 45 = .ok (.aload_n 0, 1) := by decide +kernel
theorem dX_make_46 : decode bX_make 46 = .ok (.getfield 36, 3) := by decide +kernel
theorem dX_make_49 : decode bX_make 49 = .ok (.iconst 1, 1) := by decide +kernel
theorem dX_make_50 : decode bX_make 50 = .ok (.iadd, 1) := by decide +kernel
theorem dX_make_51 : decode bX_make 51 = .ok (.istore 4, 2) := by decide +kernel
theorem dX_make_53 : decode bX_make 53 = .ok (.aload_n 0, 1) := by decide +kernel
theorem dX_make_54 : decode bX_make 54 = .ok (.iload 4, 2) := by decide +kernel
theorem dX_make_56 : decode bX_make 56 = .ok (.iload_n 3, 1) := by decide +kernel
theorem dX_make_57 : decode bX_make 57 = .ok (.invokevirtual 39, 3) := by decide +kernel
theorem dX_make_60 : decode bX_make 60 = .ok (.aload_n 0, 1) := by decide +kernel
theorem dX_make_61 : decode bX_make 61 = .ok (.iload 4, 2) := by decide +kernel
theorem dX_make_63 : decode bX_make 63 = .ok (.iconst 0, 1) := by decide +kernel
theorem dX_make_64 : decode bX_make 64 = .ok (.iadd, 1) := by decide +kernel
theorem dX_make_65 : decode bX_make 65 = .ok (.iload_n 1, 1) := by decide +kernel
theorem dX_make_66 : decode bX_make 66 = .ok (.bipush 12, 2) := by decide +kernel
theorem dX_make_68 : decode bX_make 68 = .ok (.ishl, 1) := by decide +kernel
theorem dX_make_69 : decode bX_make 69 = .ok (.iload_n 2, 1) := by decide +kernel
theorem dX_make_70 : decode bX_make 70 = .ok (.ior, 1) := by decide +kernel
theorem dX_make_71 : decode bX_make 71 = .ok (.invokevirtual 43, 3) := by decide +kernel
theorem dX_make_74 : decode bX_make 74 = .ok (.aload_n 0, 1) := by decide +kernel
theorem dX_make_75 : decode bX_make 75 = .ok (.dup, 1) := by decide +kernel
theorem dX_make_76 : decode bX_make 76 = .ok (.getfield 36, 3) := by decide +kernel
theorem dX_make_79 : decode bX_make 79 = .ok (.iload_n 3, 1) := by decide +kernel
theorem dX_make_80 : decode bX_make 80 = .ok (.iadd, 1) := by decide +kernel
theorem dX_make_81 : decode bX_make 81 = .ok (.putfield 36, 3) := by decide +kernel
theorem dX_make_84 : decode bX_make 84 = .ok (.aload_n 0, 1) := by decide +kernel
theorem dX_make_85 : decode bX_make 85 = .ok (.dup, 1) := by decide +kernel
theorem dX_make_86 : decode bX_make 86 = .ok (.getfield 46, 3) := by decide +kernel
theorem dX_make_89 : decode bX_make 89 = .ok (.iconst 1, 1) := by decide +kernel
theorem dX_make_90 : decode bX_make 90 = .ok (.iadd, 1) := by decide +kernel
theorem dX_make_91 : decode bX_make 91 = .ok (.putfield 46, 3) := by decide +kernel
theorem dX_make_94 : decode bX_make 94 = .ok (.iload 4, 2) := by decide +kernel
theorem dX_make_96 : decode bX_make 96 = .ok (.ireturn, 1) := by decide +kernel
theorem dX_moveCells_0 : decode bX_moveCells 0 = .ok (.iload_n 2, 1) := by decide +kernel
theorem dX_moveCells_1 : decode bX_moveCells 1 = .ok (.iconst 1, 1) := by decide +kernel
theorem dX_moveCells_2 : decode bX_moveCells 2 = .ok (.if_icmp .lt 37, 3) := by decide +kernel
theorem dX_moveCells_5 : decode bX_moveCells 5 = .ok (.iload_n 2, 1) := by decide +kernel
theorem dX_moveCells_6 : decode bX_moveCells 6 = .ok (.iload_n 1, 1) := by decide +kernel
theorem dX_moveCells_7 : decode bX_moveCells 7 = .ok (.if_icmp .ge 32, 3) := by decide +kernel
theorem dX_moveCells_10 : decode bX_moveCells 10 = .ok (.iload_n 3, 1) := by decide +kernel
theorem dX_moveCells_11 : decode bX_moveCells 11 = .ok (.ifCond .le 28, 3) := by decide +kernel
theorem dX_moveCells_14 : decode bX_moveCells 14 = .ok (.iload_n 3, 1) := by decide +kernel
theorem dX_moveCells_15 : decode bX_moveCells 15 = .ok (.aload_n 0, 1) := by decide +kernel
theorem dX_moveCells_16 : decode bX_moveCells 16 = .ok (.getfield 13, 3) := by decide +kernel
theorem dX_moveCells_19 : decode bX_moveCells 19 = .ok (.arraylength, 1) := by decide +kernel
theorem dX_moveCells_20 : decode bX_moveCells 20 = .ok (.iload_n 1, 1) := by decide +kernel
theorem dX_moveCells_21 : decode bX_moveCells 21 = .ok (.isub, 1) := by decide +kernel
theorem dX_moveCells_22 : decode bX_moveCells 22 = .ok (.if_icmp .gt 17, 3) := by decide +kernel
theorem dX_moveCells_25 : decode bX_moveCells 25 = .ok (.aload_n 0, 1) := by decide +kernel
theorem dX_moveCells_26 : decode bX_moveCells 26 = .ok (.getfield 13, 3) := by decide +kernel
theorem dX_moveCells_29 : decode bX_moveCells 29 = .ok (.iload_n 1, 1) := by decide +kernel
theorem dX_moveCells_30 : decode bX_moveCells 30 = .ok (.aload_n 0, 1) := by decide +kernel
theorem dX_moveCells_31 : decode bX_moveCells 31 = .ok (.getfield 13, 3) := by decide +kernel
theorem dX_moveCells_34 : decode bX_moveCells 34 = .ok (.iload_n 2, 1) := by decide +kernel
theorem dX_moveCells_35 : decode bX_moveCells 35 = .ok (.iload_n 3, 1) := by decide +kernel
theorem dX_moveCells_36 : decode bX_moveCells 36 = .ok (.invokestatic 132, 3) := by decide +kernel
theorem dX_moveCells_39 : decode bX_moveCells 39 = .ok (.return_, 1) := by decide +kernel
theorem dX_moveReached_0 : decode bX_moveReached 0 = .ok (.iconst 1, 1) := by decide +kernel
theorem dX_moveReached_1 : decode bX_moveReached 1 = .ok (.istore_n 1, 1) := by decide +kernel
theorem dX_moveReached_2 : decode bX_moveReached 2 = .ok (.iconst 0, 1) := by decide +kernel
theorem dX_moveReached_3 : decode bX_moveReached 3 = .ok (.istore_n 2, 1) := by decide +kernel
theorem dX_moveReached_4 : decode bX_moveReached 4 = .ok (.iload_n 2, 1) := by decide +kernel
theorem dX_moveReached_5 : decode bX_moveReached 5 = .ok (.aload_n 0, 1) := by decide +kernel
theorem dX_moveReached_6 : decode bX_moveReached 6 = .ok (.getfield 46, 3) := by decide +kernel
theorem dX_moveReached_9 : decode bX_moveReached 9 = .ok (.if_icmp .ge 41, 3) := by decide +kernel
theorem dX_moveReached_12 : decode bX_moveReached 12 = .ok (.aload_n 0, 1) := by decide +kernel
theorem dX_moveReached_13 : decode bX_moveReached 13 = .ok (.iload_n 1, 1) := by decide +kernel
theorem dX_moveReached_14 : decode bX_moveReached 14 = .ok (.invokevirtual 101, 3) := by decide +kernel
theorem dX_moveReached_17 : decode bX_moveReached 17 = .ok (.istore_n 3, 1) := by decide +kernel
theorem dX_moveReached_18 : decode bX_moveReached 18 = .ok (.aload_n 0, 1) := by decide +kernel
theorem dX_moveReached_19 : decode bX_moveReached 19 = .ok (.iload_n 1, 1) := by decide +kernel
theorem dX_moveReached_20 : decode bX_moveReached 20 = .ok (.iconst 2, 1) := by decide +kernel
theorem dX_moveReached_21 : decode bX_moveReached 21 = .ok (.iadd, 1) := by decide +kernel
theorem dX_moveReached_22 : decode bX_moveReached 22 = .ok (.invokevirtual 60, 3) := by decide +kernel
theorem dX_moveReached_25 : decode bX_moveReached 25 = .ok (.istore 4, 2) := by decide +kernel
theorem dX_moveReached_27 : decode bX_moveReached 27 = .ok (.iload 4, 2) := by decide +kernel
theorem dX_moveReached_29 : decode bX_moveReached 29 = .ok (.ifCond .eq 11, 3) := by decide +kernel
theorem dX_moveReached_32 : decode bX_moveReached 32 = .ok (.aload_n 0, 1) := by decide +kernel
theorem dX_moveReached_33 : decode bX_moveReached 33 = .ok (.iload_n 1, 1) := by decide +kernel
theorem dX_moveReached_34 : decode bX_moveReached 34 = .ok (.iload 4, 2) := by decide +kernel
theorem dX_moveReached_36 : decode bX_moveReached 36 = .ok (.iload_n 3, 1) := by decide +kernel
theorem dX_moveReached_37 : decode bX_moveReached 37 = .ok (.invokevirtual 159, 3) := by decide +kernel
theorem dX_moveReached_40 : decode bX_moveReached 40 = .ok (.iload_n 1, 1) := by decide +kernel
theorem dX_moveReached_41 : decode bX_moveReached 41 = .ok (.iload_n 3, 1) := by decide +kernel
theorem dX_moveReached_42 : decode bX_moveReached 42 = .ok (.iadd, 1) := by decide +kernel
theorem dX_moveReached_43 : decode bX_moveReached 43 = .ok (.istore_n 1, 1) := by decide +kernel
theorem dX_moveReached_44 : decode bX_moveReached 44 = .ok (.iinc 2 1, 3) := by decide +kernel
theorem dX_moveReached_47 : decode bX_moveReached 47 = .ok (.goto (-43), 3) := by decide +kernel
theorem dX_moveReached_50 : decode bX_moveReached 50 = .ok (.return_, 1) := by decide +kernel
theorem dX_needObject_0 : decode bX_needObject 0 = .ok (.aload_n 0, 1) := by decide +kernel
theorem dX_needObject_1 : decode bX_needObject 1 = .ok (.iload_n 1, 1) := by decide +kernel
theorem dX_needObject_2 : decode bX_needObject 2 = .ok (.invokevirtual 117, 3) := by decide +kernel
theorem dX_needObject_5 : decode bX_needObject 5 = .ok (.ifCond .ne 13, 3) := by decide +kernel
theorem dX_needObject_8 : decode bX_needObject 8 = .ok (.new 112, 3) := by decide +kernel
theorem dX_needObject_11 : decode bX_needObject 11 = .ok (.dup, 1) := by decide +kernel
theorem dX_needObject_12 : decode bX_needObject 12 = .ok (.ldc 120, 2) := by decide +kernel
theorem dX_needObject_14 : decode bX_needObject 14 = .ok (.invokespecial 116, 3) := by decide +kernel
theorem dX_needObject_17 : decode bX_needObject 17 = .ok (.athrow, 1) := by decide +kernel
theorem dX_needObject_18 : decode bX_needObject 18 = .ok (.return_, 1) := by decide +kernel
theorem dX_needObjectOrNothing_0 : decode bX_needObjectOrNothing 0 = .ok (.iload_n 1, 1) := by decide +kernel
theorem dX_needObjectOrNothing_1 : decode bX_needObjectOrNothing 1 = .ok (.ifCond .eq 8, 3) := by decide +kernel
theorem dX_needObjectOrNothing_4 : decode bX_needObjectOrNothing 4 = .ok (.aload_n 0, 1) := by decide +kernel
theorem dX_needObjectOrNothing_5 : decode bX_needObjectOrNothing 5 = .ok (.iload_n 1, 1) := by decide +kernel
theorem dX_needObjectOrNothing_6 : decode bX_needObjectOrNothing 6 = .ok (.invokevirtual 95, 3) := by decide +kernel
theorem dX_needObjectOrNothing_9 : decode bX_needObjectOrNothing 9 = .ok (.return_, 1) := by decide +kernel
theorem dX_needRoot_0 : decode bX_needRoot 0 = .ok (.iload_n 1, 1) := by decide +kernel
theorem dX_needRoot_1 : decode bX_needRoot 1 = .ok (.ifCond .lt 12, 3) := by decide +kernel
theorem dX_needRoot_4 : decode bX_needRoot 4 = .ok (.iload_n 1, 1) := by decide +kernel
theorem dX_needRoot_5 : decode bX_needRoot 5 = .ok (.aload_n 0, 1) := by decide +kernel
theorem dX_needRoot_6 : decode bX_needRoot 6 = .ok (.getfield 9, 3) := by decide +kernel
theorem dX_needRoot_9 : decode bX_needRoot 9 = .ok (.arraylength, 1) := by decide +kernel
theorem dX_needRoot_10 : decode bX_needRoot 10 = .ok (.if_icmp .lt 13, 3) := by decide +kernel
theorem dX_needRoot_13 : decode bX_needRoot 13 = .ok (.new 112, 3) := by decide +kernel
theorem dX_needRoot_16 : decode bX_needRoot 16 = .ok (.dup, 1) := by decide +kernel
theorem dX_needRoot_17 : decode bX_needRoot 17 = .ok (.ldc 114, 2) := by decide +kernel
theorem dX_needRoot_19 : decode bX_needRoot 19 = .ok (.invokespecial 116, 3) := by decide +kernel
theorem dX_needRoot_22 : decode bX_needRoot 22 = .ok (.athrow, 1) := by decide +kernel
theorem dX_needRoot_23 : decode bX_needRoot 23 = .ok (.return_, 1) := by decide +kernel
theorem dX_next_0 : decode bX_next 0 = .ok (.aload_n 0, 1) := by decide +kernel
theorem dX_next_1 : decode bX_next 1 = .ok (.iload_n 1, 1) := by decide +kernel
theorem dX_next_2 : decode bX_next 2 = .ok (.invokevirtual 53, 3) := by decide +kernel
theorem dX_next_5 : decode bX_next 5 = .ok (.iload_n 1, 1) := by decide +kernel
theorem dX_next_6 : decode bX_next 6 = .ok (.ifCond .ne 7, 3) := by decide +kernel
theorem dX_next_9 : decode bX_next 9 = .ok (.iconst 1, 1) := by decide +kernel
theorem dX_next_10 : decode bX_next 10 = .ok (.goto 10, 3) := by decide +kernel
theorem dX_next_13 : decode bX_next 13 = .ok (.iload_n 1, 1) := by decide +kernel
theorem dX_next_14 : decode bX_next 14 = .ok (.aload_n 0, 1) := by decide +kernel
theorem dX_next_15 : decode bX_next 15 = .ok (.iload_n 1, 1) := by decide +kernel
theorem dX_next_16 : decode bX_next 16 = .ok (.invokevirtual 101, 3) := by decide +kernel
theorem dX_next_19 : decode bX_next 19 = .ok (.iadd, 1) := by decide +kernel
theorem dX_next_20 : decode bX_next 20 = .ok (.istore_n 2, 1) := by decide +kernel
theorem dX_next_21 : decode bX_next 21 = .ok (.iload_n 2, 1) := by decide +kernel
theorem dX_next_22 : decode bX_next 22 = .ok (.aload_n 0, 1) := by decide +kernel
theorem dX_next_23 : decode bX_next 23 = .ok (.getfield 36, 3) := by decide +kernel
theorem dX_next_26 : decode bX_next 26 = .ok (.if_icmp .gt 7, 3) := by decide +kernel
theorem dX_next_29 : decode bX_next 29 = .ok (.iload_n 2, 1) := by decide +kernel
theorem dX_next_30 : decode bX_next 30 = .ok (.goto 4, 3) := by decide +kernel
theorem dX_next_33 : decode bX_next 33 = .ok (.iconst 0, 1) := by decide +kernel
theorem dX_next_34 : decode bX_next 34 = .ok (.ireturn, 1) := by decide +kernel
theorem dX_number_0 : decode bX_number 0 = .ok (.aload_n 0, 1) := by decide +kernel
theorem dX_number_1 : decode bX_number 1 = .ok (.iload_n 1, 1) := by decide +kernel
theorem dX_number_2 : decode bX_number 2 = .ok (.invokevirtual 95, 3) := by decide +kernel
theorem dX_number_5 : decode bX_number 5 = .ok (.aload_n 0, 1) := by decide +kernel
theorem dX_number_6 : decode bX_number 6 = .ok (.iload_n 1, 1) := by decide +kernel
theorem dX_number_7 : decode bX_number 7 = .ok (.iconst 1, 1) := by decide +kernel
theorem dX_number_8 : decode bX_number 8 = .ok (.iadd, 1) := by decide +kernel
theorem dX_number_9 : decode bX_number 9 = .ok (.invokevirtual 60, 3) := by decide +kernel
theorem dX_number_12 : decode bX_number 12 = .ok (.ifCond .ne 24, 3) := by decide +kernel
theorem dX_number_15 : decode bX_number 15 = .ok (.aload_n 0, 1) := by decide +kernel
theorem dX_number_16 : decode bX_number 16 = .ok (.dup, 1) := by decide +kernel
theorem dX_number_17 : decode bX_number 17 = .ok (.getfield 98, 3) := by decide +kernel
theorem dX_number_20 : decode bX_number 20 = .ok (.iconst 1, 1) := by decide +kernel
theorem dX_number_21 : decode bX_number 21 = .ok (.iadd, 1) := by decide +kernel
theorem dX_number_22 : decode bX_number 22 = .ok (.putfield 98, 3) := by decide +kernel
theorem dX_number_25 : decode bX_number 25 = .ok (.aload_n 0, 1) := by decide +kernel
theorem dX_number_26 : decode bX_number 26 = .ok (.iload_n 1, 1) := by decide +kernel
theorem dX_number_27 : decode bX_number 27 = .ok (.iconst 1, 1) := by decide +kernel
theorem dX_number_28 : decode bX_number 28 = .ok (.iadd, 1) := by decide +kernel
theorem dX_number_29 : decode bX_number 29 = .ok (.aload_n 0, 1) := by decide +kernel
theorem dX_number_30 : decode bX_number 30 = .ok (.getfield 98, 3) := by decide +kernel
theorem dX_number_33 : decode bX_number 33 = .ok (.invokevirtual 43, 3) := by decide +kernel
theorem dX_number_36 : decode bX_number 36 = .ok (.aload_n 0, 1) := by decide +kernel
theorem dX_number_37 : decode bX_number 37 = .ok (.iload_n 1, 1) := by decide +kernel
theorem dX_number_38 : decode bX_number 38 = .ok (.iconst 1, 1) := by decide +kernel
theorem dX_number_39 : decode bX_number 39 = .ok (.iadd, 1) := by decide +kernel
theorem dX_number_40 : decode bX_number 40 = .ok (.invokevirtual 60, 3) := by decide +kernel
theorem dX_number_43 : decode bX_number 43 = .ok (.iconst 1, 1) := by decide +kernel
theorem dX_number_44 : decode bX_number 44 = .ok (.isub, 1) := by decide +kernel
theorem dX_number_45 : decode bX_number 45 = .ok (.ireturn, 1) := by decide +kernel
theorem dX_placeOf_0 : decode bX_placeOf 0 = .ok (.iload_n 1, 1) := by decide +kernel
theorem dX_placeOf_1 : decode bX_placeOf 1 = .ok (.ifCond .ne 7, 3) := by decide +kernel
theorem dX_placeOf_4 : decode bX_placeOf 4 = .ok (.iconst 0, 1) := by decide +kernel
theorem dX_placeOf_5 : decode bX_placeOf 5 = .ok (.goto 10, 3) := by decide +kernel
theorem dX_placeOf_8 : decode bX_placeOf 8 = .ok (.aload_n 0, 1) := by decide +kernel
theorem dX_placeOf_9 : decode bX_placeOf 9 = .ok (.iload_n 1, 1) := by decide +kernel
theorem dX_placeOf_10 : decode bX_placeOf 10 = .ok (.iconst 2, 1) := by decide +kernel
theorem dX_placeOf_11 : decode bX_placeOf 11 = .ok (.iadd, 1) := by decide +kernel
theorem dX_placeOf_12 : decode bX_placeOf 12 = .ok (.invokevirtual 60, 3) := by decide +kernel
theorem dX_placeOf_15 : decode bX_placeOf 15 = .ok (.ireturn, 1) := by decide +kernel
theorem dX_put_0 : decode bX_put 0 = .ok (.aload_n 0, 1) := by decide +kernel
theorem dX_put_1 : decode bX_put 1 = .ok (.aload_n 0, 1) := by decide +kernel
theorem dX_put_2 : decode bX_put 2 = .ok (.iload_n 1, 1) := by decide +kernel
theorem dX_put_3 : decode bX_put 3 = .ok (.iload_n 2, 1) := by decide +kernel
theorem dX_put_4 : decode bX_put 4 = .ok (.invokevirtual 64, 3) := by decide +kernel
theorem dX_put_7 : decode bX_put 7 = .ok (.iload_n 3, 1) := by decide +kernel
theorem dX_put_8 : decode bX_put 8 = .ok (.invokevirtual 57, 3) := by decide +kernel
theorem dX_put_11 : decode bX_put 11 = .ok (.ireturn, 1) := by decide +kernel
theorem dX_reach_0 : decode bX_reach 0 = .ok (.iload_n 1, 1) := by decide +kernel
theorem dX_reach_1 : decode bX_reach 1 = .ok (.ifCond .eq 13, 3) := by decide +kernel
theorem dX_reach_4 : decode bX_reach 4 = .ok (.aload_n 0, 1) := by decide +kernel
theorem dX_reach_5 : decode bX_reach 5 = .ok (.iload_n 1, 1) := by decide +kernel
theorem dX_reach_6 : decode bX_reach 6 = .ok (.iconst 2, 1) := by decide +kernel
theorem dX_reach_7 : decode bX_reach 7 = .ok (.iadd, 1) := by decide +kernel
theorem dX_reach_8 : decode bX_reach 8 = .ok (.invokevirtual 60, 3) := by decide +kernel
theorem dX_reach_11 : decode bX_reach 11 = .ok (.ifCond .eq 4, 3) := by decide +kernel
theorem dX_reach_14 : decode bX_reach 14 = .ok (.return_, 1) := by decide +kernel
theorem dX_reach_15 : decode bX_reach 15 = .ok (.aload_n 0, 1) := by decide +kernel
theorem dX_reach_16 : decode bX_reach 16 = .ok (.iload_n 1, 1) := by decide +kernel
theorem dX_reach_17 : decode bX_reach 17 = .ok (.iconst 2, 1) := by decide +kernel
theorem dX_reach_18 : decode bX_reach 18 = .ok (.iadd, 1) := by decide +kernel
theorem dX_reach_19 : decode bX_reach 19 = .ok (.iconst (-1), 1) := by decide +kernel
theorem dX_reach_20 : decode bX_reach 20 = .ok (.invokevirtual 43, 3) := by decide +kernel
theorem dX_reach_23 : decode bX_reach 23 = .ok (.aload_n 0, 1) := by decide +kernel
theorem dX_reach_24 : decode bX_reach 24 = .ok (.getfield 141, 3) := by decide +kernel
theorem dX_reach_27 : decode bX_reach 27 = .ok (.ifCond .ne 11, 3) := by decide +kernel
theorem dX_reach_30 : decode bX_reach 30 = .ok (.aload_n 0, 1) := by decide +kernel
theorem dX_reach_31 : decode bX_reach 31 = .ok (.iload_n 1, 1) := by decide +kernel
theorem dX_reach_32 : decode bX_reach 32 = .ok (.putfield 141, 3) := by decide +kernel
theorem dX_reach_35 : decode bX_reach 35 = .ok (.goto 14, 3) := by decide +kernel
theorem dX_reach_38 : decode bX_reach 38 = .ok (.aload_n 0, 1) := by decide +kernel
theorem dX_reach_39 : decode bX_reach 39 = .ok (.aload_n 0, 1) := by decide +kernel
theorem dX_reach_40 : decode bX_reach 40 = .ok (.getfield 144, 3) := by decide +kernel
theorem dX_reach_43 : decode bX_reach 43 = .ok (.iconst 2, 1) := by decide +kernel
theorem dX_reach_44 : decode bX_reach 44 = .ok (.iadd, 1) := by decide +kernel
theorem dX_reach_45 : decode bX_reach 45 = .ok (.iload_n 1, 1) := by decide +kernel
theorem dX_reach_46 : decode bX_reach 46 = .ok (.invokevirtual 43, 3) := by decide +kernel
theorem dX_reach_49 : decode bX_reach 49 = .ok (.aload_n 0, 1) := by decide +kernel
theorem dX_reach_50 : decode bX_reach 50 = .ok (.iload_n 1, 1) := by decide +kernel
theorem dX_reach_51 : decode bX_reach 51 = .ok (.putfield 144, 3) := by decide +kernel
theorem dX_reach_54 : decode bX_reach 54 = .ok (.aload_n 0, 1) := by decide +kernel
theorem dX_reach_55 : decode bX_reach 55 = .ok (.dup, 1) := by decide +kernel
theorem dX_reach_56 : decode bX_reach 56 = .ok (.getfield 92, 3) := by decide +kernel
theorem dX_reach_59 : decode bX_reach 59 = .ok (.iconst 1, 1) := by decide +kernel
theorem dX_reach_60 : decode bX_reach 60 = .ok (.iadd, 1) := by decide +kernel
theorem dX_reach_61 : decode bX_reach 61 = .ok (.putfield 92, 3) := by decide +kernel
theorem dX_reach_64 : decode bX_reach 64 = .ok (.return_, 1) := by decide +kernel
theorem dX_reachFieldsOf_0 : decode bX_reachFieldsOf 0 = .ok (.aload_n 0, 1) := by decide +kernel
theorem dX_reachFieldsOf_1 : decode bX_reachFieldsOf 1 = .ok (.iload_n 1, 1) := by decide +kernel
theorem dX_reachFieldsOf_2 : decode bX_reachFieldsOf 2 = .ok (.invokevirtual 122, 3) := by decide +kernel
theorem dX_reachFieldsOf_5 : decode bX_reachFieldsOf 5 = .ok (.istore_n 2, 1) := by decide +kernel
theorem dX_reachFieldsOf_6 : decode bX_reachFieldsOf 6 = .ok (.iconst 0, 1) := by decide +kernel
theorem dX_reachFieldsOf_7 : decode bX_reachFieldsOf 7 = .ok (.istore_n 3, 1) := by decide +kernel
theorem dX_reachFieldsOf_8 : decode bX_reachFieldsOf 8 = .ok (.iload_n 3, 1) := by decide +kernel
theorem dX_reachFieldsOf_9 : decode bX_reachFieldsOf 9 = .ok (.iload_n 2, 1) := by decide +kernel
theorem dX_reachFieldsOf_10 : decode bX_reachFieldsOf 10 = .ok (.if_icmp .ge 22, 3) := by decide +kernel
theorem dX_reachFieldsOf_13 : decode bX_reachFieldsOf 13 = .ok (.aload_n 0, 1) := by decide +kernel
theorem dX_reachFieldsOf_14 : decode bX_reachFieldsOf 14 = .ok (.aload_n 0, 1) := by decide +kernel
theorem dX_reachFieldsOf_15 : decode bX_reachFieldsOf 15 = .ok (.iload_n 1, 1) := by decide +kernel
theorem dX_reachFieldsOf_16 : decode bX_reachFieldsOf 16 = .ok (.iconst 3, 1) := by decide +kernel
theorem dX_reachFieldsOf_17 : decode bX_reachFieldsOf 17 = .ok (.iadd, 1) := by decide +kernel
theorem dX_reachFieldsOf_18 : decode bX_reachFieldsOf 18 = .ok (.iload_n 3, 1) := by decide +kernel
theorem dX_reachFieldsOf_19 : decode bX_reachFieldsOf 19 = .ok (.iadd, 1) := by decide +kernel
theorem dX_reachFieldsOf_20 : decode bX_reachFieldsOf 20 = .ok (.invokevirtual 60, 3) := by decide +kernel
theorem dX_reachFieldsOf_23 : decode bX_reachFieldsOf 23 = .ok (.invokevirtual 147, 3) := by decide +kernel
theorem dX_reachFieldsOf_26 : decode bX_reachFieldsOf 26 = .ok (.iinc 3 1, 3) := by decide +kernel
theorem dX_reachFieldsOf_29 : decode bX_reachFieldsOf 29 = .ok (.goto (-21), 3) := by decide +kernel
theorem dX_reachFieldsOf_32 : decode bX_reachFieldsOf 32 = .ok (.return_, 1) := by decide +kernel
theorem dX_read_0 : decode bX_read 0 = .ok (.iload_n 1, 1) := by decide +kernel
theorem dX_read_1 : decode bX_read 1 = .ok (.iconst 1, 1) := by decide +kernel
theorem dX_read_2 : decode bX_read 2 = .ok (.if_icmp .lt 21, 3) := by decide +kernel
theorem dX_read_5 : decode bX_read 5 = .ok (.iload_n 1, 1) := by decide +kernel
theorem dX_read_6 : decode bX_read 6 = .ok (.aload_n 0, 1) := by decide +kernel
theorem dX_read_7 : decode bX_read 7 = .ok (.getfield 13, 3) := by decide +kernel
theorem dX_read_10 : decode bX_read 10 = .ok (.arraylength, 1) := by decide +kernel
theorem dX_read_11 : decode bX_read 11 = .ok (.if_icmp .ge 12, 3) := by decide +kernel
theorem dX_read_14 : decode bX_read 14 = .ok (.aload_n 0, 1) := by decide +kernel
theorem dX_read_15 : decode bX_read 15 = .ok (.getfield 13, 3) := by decide +kernel
theorem dX_read_18 : decode bX_read 18 = .ok (.iload_n 1, 1) := by decide +kernel
theorem dX_read_19 : decode bX_read 19 = .ok (.iaload, 1) := by decide +kernel
theorem dX_read_20 : decode bX_read 20 = .ok (.goto 4, 3) := by decide +kernel
theorem dX_read_23 : decode bX_read 23 = .ok (.iconst 0, 1) := by decide +kernel
theorem dX_read_24 : decode bX_read 24 = .ok (.ireturn, 1) := by decide +kernel
theorem dX_redirectFields_0 : decode bX_redirectFields 0 = .ok (.iconst 1, 1) := by decide +kernel
theorem dX_redirectFields_1 : decode bX_redirectFields 1 = .ok (.istore_n 1, 1) := by decide +kernel
theorem dX_redirectFields_2 : decode bX_redirectFields 2 = .ok (.iconst 0, 1) := by decide +kernel
theorem dX_redirectFields_3 : decode bX_redirectFields 3 = .ok (.istore_n 2, 1) := by decide +kernel
theorem dX_redirectFields_4 : decode bX_redirectFields 4 = .ok (.iload_n 2, 1) := by decide +kernel
theorem dX_redirectFields_5 : decode bX_redirectFields 5 = .ok (.aload_n 0, 1) := by decide +kernel
theorem dX_redirectFields_6 : decode bX_redirectFields 6 = .ok (.getfield 46, 3) := by decide +kernel
theorem dX_redirectFields_9 : decode bX_redirectFields 9 = .ok (.if_icmp .ge 32, 3) := by decide +kernel
theorem dX_redirectFields_12 : decode bX_redirectFields 12 = .ok (.aload_n 0, 1) := by decide +kernel
theorem dX_redirectFields_13 : decode bX_redirectFields 13 = .ok (.iload_n 1, 1) := by decide +kernel
theorem dX_redirectFields_14 : decode bX_redirectFields 14 = .ok (.iconst 2, 1) := by decide +kernel
theorem dX_redirectFields_15 : decode bX_redirectFields 15 = .ok (.iadd, 1) := by decide +kernel
theorem dX_redirectFields_16 : decode bX_redirectFields 16 = .ok (.invokevirtual 60, 3) := by decide +kernel
theorem dX_redirectFields_19 : decode bX_redirectFields 19 = .ok (.ifCond .eq 8, 3) := by decide +kernel
theorem dX_redirectFields_22 : decode bX_redirectFields 22 = .ok (.aload_n 0, 1) := by decide +kernel
theorem dX_redirectFields_23 : decode bX_redirectFields 23 = .ok (.iload_n 1, 1) := by decide +kernel
theorem dX_redirectFields_24 : decode bX_redirectFields 24 = .ok (.invokevirtual 156, 3) := by decide +kernel
theorem dX_redirectFields_27 : decode bX_redirectFields 27 = .ok (.iload_n 1, 1) := by decide +kernel
theorem dX_redirectFields_28 : decode bX_redirectFields 28 = .ok (.aload_n 0, 1) := by decide +kernel
theorem dX_redirectFields_29 : decode bX_redirectFields 29 = .ok (.iload_n 1, 1) := by decide +kernel
theorem dX_redirectFields_30 : decode bX_redirectFields 30 = .ok (.invokevirtual 101, 3) := by decide +kernel
theorem dX_redirectFields_33 : decode bX_redirectFields 33 = .ok (.iadd, 1) := by decide +kernel
theorem dX_redirectFields_34 : decode bX_redirectFields 34 = .ok (.istore_n 1, 1) := by decide +kernel
theorem dX_redirectFields_35 : decode bX_redirectFields 35 = .ok (.iinc 2 1, 3) := by decide +kernel
theorem dX_redirectFields_38 : decode bX_redirectFields 38 = .ok (.goto (-34), 3) := by decide +kernel
theorem dX_redirectFields_41 : decode bX_redirectFields 41 = .ok (.return_, 1) := by decide +kernel
theorem dX_redirectFieldsOf_0 : decode bX_redirectFieldsOf 0 = .ok (.aload_n 0, 1) := by decide +kernel
theorem dX_redirectFieldsOf_1 : decode bX_redirectFieldsOf 1 = .ok (.iload_n 1, 1) := by decide +kernel
theorem dX_redirectFieldsOf_2 : decode bX_redirectFieldsOf 2 = .ok (.invokevirtual 122, 3) := by decide +kernel
theorem dX_redirectFieldsOf_5 : decode bX_redirectFieldsOf 5 = .ok (.istore_n 2, 1) := by decide +kernel
theorem dX_redirectFieldsOf_6 : decode bX_redirectFieldsOf 6 = .ok (.iconst 0, 1) := by decide +kernel
theorem dX_redirectFieldsOf_7 : decode bX_redirectFieldsOf 7 = .ok (.istore_n 3, 1) := by decide +kernel
theorem dX_redirectFieldsOf_8 : decode bX_redirectFieldsOf 8 = .ok (.iload_n 3, 1) := by decide +kernel
theorem dX_redirectFieldsOf_9 : decode bX_redirectFieldsOf 9 = .ok (.iload_n 2, 1) := by decide +kernel
theorem dX_redirectFieldsOf_10 : decode bX_redirectFieldsOf 10 = .ok (.if_icmp .ge 32, 3) := by decide +kernel
theorem dX_redirectFieldsOf_13 : decode bX_redirectFieldsOf 13 = .ok (.iload_n 1, 1) := by decide +kernel
theorem dX_redirectFieldsOf_14 : decode bX_redirectFieldsOf 14 = .ok (.iconst 3, 1) := by decide +kernel
theorem dX_redirectFieldsOf_15 : decode bX_redirectFieldsOf 15 = .ok (.iadd, 1) := by decide +kernel
theorem dX_redirectFieldsOf_16 : decode bX_redirectFieldsOf 16 = .ok (.iload_n 3, 1) := by decide +kernel
theorem dX_redirectFieldsOf_17 : decode bX_redirectFieldsOf 17 = .ok (.iadd, 1) := by decide +kernel
theorem dX_redirectFieldsOf_18 : decode bX_redirectFieldsOf 18 = .ok (.istore 4, 2) := by decide +kernel
theorem dX_redirectFieldsOf_20 : decode bX_redirectFieldsOf 20 = .ok (.aload_n 0, 1) := by decide +kernel
theorem dX_redirectFieldsOf_21 : decode bX_redirectFieldsOf 21 = .ok (.iload 4, 2) := by decide +kernel
theorem dX_redirectFieldsOf_23 : decode bX_redirectFieldsOf 23 = .ok (.aload_n 0, 1) := by decide +kernel
theorem dX_redirectFieldsOf_24 : decode bX_redirectFieldsOf 24 = .ok (.aload_n 0, 1) := by decide +kernel
theorem dX_redirectFieldsOf_25 : decode bX_redirectFieldsOf 25 = .ok (.iload 4, 2) := by decide +kernel
theorem dX_redirectFieldsOf_27 : decode bX_redirectFieldsOf 27 = .ok (.invokevirtual 60, 3) := by decide +kernel
theorem dX_redirectFieldsOf_30 : decode bX_redirectFieldsOf 30 = .ok (.invokevirtual 153, 3) := by decide +kernel
theorem dX_redirectFieldsOf_33 : decode bX_redirectFieldsOf 33 = .ok (.invokevirtual 43, 3) := by decide +kernel
theorem dX_redirectFieldsOf_36 : decode bX_redirectFieldsOf 36 = .ok (.iinc 3 1, 3) := by decide +kernel
theorem dX_redirectFieldsOf_39 : decode bX_redirectFieldsOf 39 = .ok (.goto (-31), 3) := by decide +kernel
theorem dX_redirectFieldsOf_42 : decode bX_redirectFieldsOf 42 = .ok (.return_, 1) := by decide +kernel
theorem dX_redirectRoots_0 : decode bX_redirectRoots 0 = .ok (.iconst 0, 1) := by decide +kernel
theorem dX_redirectRoots_1 : decode bX_redirectRoots 1 = .ok (.istore_n 1, 1) := by decide +kernel
theorem dX_redirectRoots_2 : decode bX_redirectRoots 2 = .ok (.iload_n 1, 1) := by decide +kernel
theorem dX_redirectRoots_3 : decode bX_redirectRoots 3 = .ok (.aload_n 0, 1) := by decide +kernel
theorem dX_redirectRoots_4 : decode bX_redirectRoots 4 = .ok (.getfield 9, 3) := by decide +kernel
theorem dX_redirectRoots_7 : decode bX_redirectRoots 7 = .ok (.arraylength, 1) := by decide +kernel
theorem dX_redirectRoots_8 : decode bX_redirectRoots 8 = .ok (.if_icmp .ge 25, 3) := by decide +kernel
theorem dX_redirectRoots_11 : decode bX_redirectRoots 11 = .ok (.aload_n 0, 1) := by decide +kernel
theorem dX_redirectRoots_12 : decode bX_redirectRoots 12 = .ok (.getfield 9, 3) := by decide +kernel
theorem dX_redirectRoots_15 : decode bX_redirectRoots 15 = .ok (.iload_n 1, 1) := by decide +kernel
theorem dX_redirectRoots_16 : decode bX_redirectRoots 16 = .ok (.aload_n 0, 1) := by decide +kernel
theorem dX_redirectRoots_17 : decode bX_redirectRoots 17 = .ok (.aload_n 0, 1) := by decide +kernel
theorem dX_redirectRoots_18 : decode bX_redirectRoots 18 = .ok (.getfield 9, 3) := by decide +kernel
theorem dX_redirectRoots_21 : decode bX_redirectRoots 21 = .ok (.iload_n 1, 1) := by decide +kernel
theorem dX_redirectRoots_22 : decode bX_redirectRoots 22 = .ok (.iaload, 1) := by decide +kernel
theorem dX_redirectRoots_23 : decode bX_redirectRoots 23 = .ok (.invokevirtual 153, 3) := by decide +kernel
theorem dX_redirectRoots_26 : decode bX_redirectRoots 26 = .ok (.iastore, 1) := by decide +kernel
theorem dX_redirectRoots_27 : decode bX_redirectRoots 27 = .ok (.iinc 1 1, 3) := by decide +kernel
theorem dX_redirectRoots_30 : decode bX_redirectRoots 30 = .ok (.goto (-28), 3) := by decide +kernel
theorem dX_redirectRoots_33 : decode bX_redirectRoots 33 = .ok (.return_, 1) := by decide +kernel
theorem dX_replace_0 : decode bX_replace 0 = .ok (.aload_n 0, 1) := by decide +kernel
theorem dX_replace_1 : decode bX_replace 1 = .ok (.iload_n 1, 1) := by decide +kernel
theorem dX_replace_2 : decode bX_replace 2 = .ok (.invokevirtual 60, 3) := by decide +kernel
theorem dX_replace_5 : decode bX_replace 5 = .ok (.istore_n 3, 1) := by decide +kernel
theorem dX_replace_6 : decode bX_replace 6 = .ok (.aload_n 0, 1) := by decide +kernel
theorem dX_replace_7 : decode bX_replace 7 = .ok (.iload_n 1, 1) := by decide +kernel
theorem dX_replace_8 : decode bX_replace 8 = .ok (.iload_n 2, 1) := by decide +kernel
theorem dX_replace_9 : decode bX_replace 9 = .ok (.invokevirtual 43, 3) := by decide +kernel
theorem dX_replace_12 : decode bX_replace 12 = .ok (.iload_n 3, 1) := by decide +kernel
theorem dX_replace_13 : decode bX_replace 13 = .ok (.ireturn, 1) := by decide +kernel
theorem dX_root_0 : decode bX_root 0 = .ok (.aload_n 0, 1) := by decide +kernel
theorem dX_root_1 : decode bX_root 1 = .ok (.iload_n 1, 1) := by decide +kernel
theorem dX_root_2 : decode bX_root 2 = .ok (.invokevirtual 67, 3) := by decide +kernel
theorem dX_root_5 : decode bX_root 5 = .ok (.aload_n 0, 1) := by decide +kernel
theorem dX_root_6 : decode bX_root 6 = .ok (.iload_n 2, 1) := by decide +kernel
theorem dX_root_7 : decode bX_root 7 = .ok (.invokevirtual 53, 3) := by decide +kernel
theorem dX_root_10 : decode bX_root 10 = .ok (.aload_n 0, 1) := by decide +kernel
theorem dX_root_11 : decode bX_root 11 = .ok (.getfield 9, 3) := by decide +kernel
theorem dX_root_14 : decode bX_root 14 = .ok (.iload_n 1, 1) := by decide +kernel
theorem dX_root_15 : decode bX_root 15 = .ok (.iaload, 1) := by decide +kernel
theorem dX_root_16 : decode bX_root 16 = .ok (.istore_n 3, 1) := by decide +kernel
theorem dX_root_17 : decode bX_root 17 = .ok (.aload_n 0, 1) := by decide +kernel
theorem dX_root_18 : decode bX_root 18 = .ok (.getfield 9, 3) := by decide +kernel
theorem dX_root_21 : decode bX_root 21 = .ok (.iload_n 1, 1) := by decide +kernel
theorem dX_root_22 : decode bX_root 22 = .ok (.iload_n 2, 1) := by decide +kernel
theorem dX_root_23 : decode bX_root 23 = .ok (.iastore, 1) := by decide +kernel
theorem dX_root_24 : decode bX_root 24 = .ok (.iload_n 3, 1) := by decide +kernel
theorem dX_root_25 : decode bX_root 25 = .ok (.ireturn, 1) := by decide +kernel
theorem dX_rooted_0 : decode bX_rooted 0 = .ok (.aload_n 0, 1) := by decide +kernel
theorem dX_rooted_1 : decode bX_rooted 1 = .ok (.iload_n 1, 1) := by decide +kernel
theorem dX_rooted_2 : decode bX_rooted 2 = .ok (.invokevirtual 67, 3) := by decide +kernel
theorem dX_rooted_5 : decode bX_rooted 5 = .ok (.aload_n 0, 1) := by decide +kernel
theorem dX_rooted_6 : decode bX_rooted 6 = .ok (.getfield 9, 3) := by decide +kernel
theorem dX_rooted_9 : decode bX_rooted 9 = .ok (.iload_n 1, 1) := by decide +kernel
theorem dX_rooted_10 : decode bX_rooted 10 = .ok (.iaload, 1) := by decide +kernel
theorem dX_rooted_11 : decode bX_rooted 11 = .ok (.ireturn, 1) := by decide +kernel
theorem dX_set_0 : decode bX_set 0 = .ok (.aload_n 0, 1) := by decide +kernel
theorem dX_set_1 : decode bX_set 1 = .ok (.iload_n 1, 1) := by decide +kernel
theorem dX_set_2 : decode bX_set 2 = .ok (.iload_n 2, 1) := by decide +kernel
theorem dX_set_3 : decode bX_set 3 = .ok (.invokevirtual 49, 3) := by decide +kernel
theorem dX_set_6 : decode bX_set 6 = .ok (.istore 4, 2) := by decide +kernel
theorem dX_set_8 : decode bX_set 8 = .ok (.aload_n 0, 1) := by decide +kernel
theorem dX_set_9 : decode bX_set 9 = .ok (.iload_n 3, 1) := by decide +kernel
theorem dX_set_10 : decode bX_set 10 = .ok (.invokevirtual 53, 3) := by decide +kernel
theorem dX_set_13 : decode bX_set 13 = .ok (.aload_n 0, 1) := by decide +kernel
theorem dX_set_14 : decode bX_set 14 = .ok (.iload 4, 2) := by decide +kernel
theorem dX_set_16 : decode bX_set 16 = .ok (.iload_n 3, 1) := by decide +kernel
theorem dX_set_17 : decode bX_set 17 = .ok (.invokevirtual 57, 3) := by decide +kernel
theorem dX_set_20 : decode bX_set 20 = .ok (.ireturn, 1) := by decide +kernel
theorem dX_sizeOf_0 : decode bX_sizeOf 0 = .ok (.aload_n 0, 1) := by decide +kernel
theorem dX_sizeOf_1 : decode bX_sizeOf 1 = .ok (.iload_n 1, 1) := by decide +kernel
theorem dX_sizeOf_2 : decode bX_sizeOf 2 = .ok (.iconst 0, 1) := by decide +kernel
theorem dX_sizeOf_3 : decode bX_sizeOf 3 = .ok (.iadd, 1) := by decide +kernel
theorem dX_sizeOf_4 : decode bX_sizeOf 4 = .ok (.invokevirtual 60, 3) := by decide +kernel
theorem dX_sizeOf_7 : decode bX_sizeOf 7 = .ok (.istore_n 2, 1) := by decide +kernel
theorem dX_sizeOf_8 : decode bX_sizeOf 8 = .ok (.iconst 3, 1) := by decide +kernel
theorem dX_sizeOf_9 : decode bX_sizeOf 9 = .ok (.iload_n 2, 1) := by decide +kernel
theorem dX_sizeOf_10 : decode bX_sizeOf 10 = .ok (.bipush 12, 2) := by decide +kernel
theorem dX_sizeOf_12 : decode bX_sizeOf 12 = .ok (.ishr, 1) := by decide +kernel
theorem dX_sizeOf_13 : decode bX_sizeOf 13 = .ok (.iadd, 1) := by decide +kernel
theorem dX_sizeOf_14 : decode bX_sizeOf 14 = .ok (.iload_n 2, 1) := by decide +kernel
theorem dX_sizeOf_15 : decode bX_sizeOf 15 = .ok (.sipush 4095, 3) := by decide +kernel
theorem dX_sizeOf_18 : decode bX_sizeOf 18 = .ok (.iand, 1) := by decide +kernel
theorem dX_sizeOf_19 : decode bX_sizeOf 19 = .ok (.iadd, 1) := by decide +kernel
theorem dX_sizeOf_20 : decode bX_sizeOf 20 = .ok (.ireturn, 1) := by decide +kernel
theorem dX_slide_0 : decode bX_slide 0 = .ok (.aload_n 0, 1) := by decide +kernel
theorem dX_slide_1 : decode bX_slide 1 = .ok (.invokevirtual 70, 3) := by decide +kernel
theorem dX_slide_4 : decode bX_slide 4 = .ok (.aload_n 0, 1) := by decide +kernel
theorem dX_slide_5 : decode bX_slide 5 = .ok (.invokevirtual 73, 3) := by decide +kernel
theorem dX_slide_8 : decode bX_slide 8 = .ok (.istore_n 1, 1) := by decide +kernel
theorem dX_slide_9 : decode bX_slide 9 = .ok (.aload_n 0, 1) := by decide +kernel
theorem dX_slide_10 : decode bX_slide 10 = .ok (.invokevirtual 77, 3) := by decide +kernel
theorem dX_slide_13 : decode bX_slide 13 = .ok (.aload_n 0, 1) := by decide +kernel
theorem dX_slide_14 : decode bX_slide 14 = .ok (.invokevirtual 80, 3) := by decide +kernel
theorem dX_slide_17 : decode bX_slide 17 = .ok (.aload_n 0, 1) := by decide +kernel
theorem dX_slide_18 : decode bX_slide 18 = .ok (.invokevirtual 83, 3) := by decide +kernel
theorem dX_slide_21 : decode bX_slide 21 = .ok (.aload_n 0, 1) := by decide +kernel
theorem dX_slide_22 : decode bX_slide 22 = .ok (.dup, 1) := by decide +kernel
theorem dX_slide_23 : decode bX_slide 23 = .ok (.getfield 86, 3) := by decide +kernel
theorem dX_slide_26 : decode bX_slide 26 = .ok (.iconst 1, 1) := by decide +kernel
theorem dX_slide_27 : decode bX_slide 27 = .ok (.iadd, 1) := by decide +kernel
theorem dX_slide_28 : decode bX_slide 28 = .ok (.putfield 86, 3) := by decide +kernel
theorem dX_slide_31 : decode bX_slide 31 = .ok (.aload_n 0, 1) := by decide +kernel
theorem dX_slide_32 : decode bX_slide 32 = .ok (.dup, 1) := by decide +kernel
theorem dX_slide_33 : decode bX_slide 33 = .ok (.getfield 89, 3) := by decide +kernel
theorem dX_slide_36 : decode bX_slide 36 = .ok (.aload_n 0, 1) := by decide +kernel
theorem dX_slide_37 : decode bX_slide 37 = .ok (.getfield 46, 3) := by decide +kernel
theorem dX_slide_40 : decode bX_slide 40 = .ok (.aload_n 0, 1) := by decide +kernel
theorem dX_slide_41 : decode bX_slide 41 = .ok (.getfield 92, 3) := by decide +kernel
theorem dX_slide_44 : decode bX_slide 44 = .ok (.isub, 1) := by decide +kernel
theorem dX_slide_45 : decode bX_slide 45 = .ok (.iadd, 1) := by decide +kernel
theorem dX_slide_46 : decode bX_slide 46 = .ok (.putfield 89, 3) := by decide +kernel
theorem dX_slide_49 : decode bX_slide 49 = .ok (.aload_n 0, 1) := by decide +kernel
theorem dX_slide_50 : decode bX_slide 50 = .ok (.aload_n 0, 1) := by decide +kernel
theorem dX_slide_51 : decode bX_slide 51 = .ok (.getfield 92, 3) := by decide +kernel
theorem dX_slide_54 : decode bX_slide 54 = .ok (.putfield 46, 3) := by decide +kernel
theorem dX_slide_57 : decode bX_slide 57 = .ok (.aload_n 0, 1) := by decide +kernel
theorem dX_slide_58 : decode bX_slide 58 = .ok (.iload_n 1, 1) := by decide +kernel
theorem dX_slide_59 : decode bX_slide 59 = .ok (.putfield 36, 3) := by decide +kernel
theorem dX_slide_62 : decode bX_slide 62 = .ok (.aload_n 0, 1) := by decide +kernel
theorem dX_slide_63 : decode bX_slide 63 = .ok (.getfield 36, 3) := by decide +kernel
theorem dX_slide_66 : decode bX_slide 66 = .ok (.ireturn, 1) := by decide +kernel
theorem dX_space_0 : decode bX_space 0 = .ok (.iload_n 1, 1) := by decide +kernel
theorem dX_space_1 : decode bX_space 1 = .ok (.bipush 16, 2) := by decide +kernel
theorem dX_space_3 : decode bX_space 3 = .ok (.if_icmp .lt 10, 3) := by decide +kernel
theorem dX_space_6 : decode bX_space 6 = .ok (.iload_n 1, 1) := by decide +kernel
theorem dX_space_7 : decode bX_space 7 = .ok (.sipush 16384, 3) := by decide +kernel
theorem dX_space_10 : decode bX_space 10 = .ok (.if_icmp .le 13, 3) := by decide +kernel
theorem dX_space_13 : decode bX_space 13 = .ok (.new 20, 3) := by decide +kernel
theorem dX_space_16 : decode bX_space 16 = .ok (.dup, 1) := by decide +kernel
theorem dX_space_17 : decode bX_space 17 = .ok (.ldc 22, 2) := by decide +kernel
theorem dX_space_19 : decode bX_space 19 = .ok (.invokespecial 24, 3) := by decide +kernel
theorem dX_space_22 : decode bX_space 22 = .ok (.athrow, 1) := by decide +kernel
theorem dX_space_23 : decode bX_space 23 = .ok (.aload_n 0, 1) := by decide +kernel
theorem dX_space_24 : decode bX_space 24 = .ok (.getfield 16, 3) := by decide +kernel
theorem dX_space_27 : decode bX_space 27 = .ok (.istore_n 2, 1) := by decide +kernel
theorem dX_space_28 : decode bX_space 28 = .ok (.iload_n 1, 1) := by decide +kernel
theorem dX_space_29 : decode bX_space 29 = .ok (.aload_n 0, 1) := by decide +kernel
theorem dX_space_30 : decode bX_space 30 = .ok (.getfield 13, 3) := by decide +kernel
theorem dX_space_33 : decode bX_space 33 = .ok (.arraylength, 1) := by decide +kernel
theorem dX_space_34 : decode bX_space 34 = .ok (.if_icmp .lt 12, 3) := by decide +kernel
theorem dX_space_37 : decode bX_space 37 = .ok (.aload_n 0, 1) := by decide +kernel
theorem dX_space_38 : decode bX_space 38 = .ok (.sipush 16385, 3) := by decide +kernel
theorem dX_space_41 : decode bX_space 41 = .ok (.newarray .int, 2) := by decide +kernel
theorem dX_space_43 : decode bX_space 43 = .ok (.putfield 13, 3) := by decide +kernel
theorem dX_space_46 : decode bX_space 46 = .ok (.aload_n 0, 1) := by decide +kernel
theorem dX_space_47 : decode bX_space 47 = .ok (.iload_n 1, 1) := by decide +kernel
theorem dX_space_48 : decode bX_space 48 = .ok (.putfield 16, 3) := by decide +kernel
theorem dX_space_51 : decode bX_space 51 = .ok (.aload_n 0, 1) := by decide +kernel
theorem dX_space_52 : decode bX_space 52 = .ok (.invokevirtual 27, 3) := by decide +kernel
theorem dX_space_55 : decode bX_space 55 = .ok (.iload_n 2, 1) := by decide +kernel
theorem dX_space_56 : decode bX_space 56 = .ok (.ireturn, 1) := by decide +kernel
theorem dX_word_0 : decode bX_word 0 = .ok (.aload_n 0, 1) := by decide +kernel
theorem dX_word_1 : decode bX_word 1 = .ok (.aload_n 0, 1) := by decide +kernel
theorem dX_word_2 : decode bX_word 2 = .ok (.iload_n 1, 1) := by decide +kernel
theorem dX_word_3 : decode bX_word 3 = .ok (.iload_n 2, 1) := by decide +kernel
theorem dX_word_4 : decode bX_word 4 = .ok (.invokevirtual 64, 3) := by decide +kernel
theorem dX_word_7 : decode bX_word 7 = .ok (.invokevirtual 60, 3) := by decide +kernel
theorem dX_word_10 : decode bX_word 10 = .ok (.ireturn, 1) := by decide +kernel
theorem dX_wordCell_0 : decode bX_wordCell 0 = .ok (.aload_n 0, 1) := by decide +kernel
theorem dX_wordCell_1 : decode bX_wordCell 1 = .ok (.iload_n 1, 1) := by decide +kernel
theorem dX_wordCell_2 : decode bX_wordCell 2 = .ok (.invokevirtual 95, 3) := by decide +kernel
theorem dX_wordCell_5 : decode bX_wordCell 5 = .ok (.iload_n 2, 1) := by decide +kernel
theorem dX_wordCell_6 : decode bX_wordCell 6 = .ok (.ifCond .lt 12, 3) := by decide +kernel
theorem dX_wordCell_9 : decode bX_wordCell 9 = .ok (.iload_n 2, 1) := by decide +kernel
theorem dX_wordCell_10 : decode bX_wordCell 10 = .ok (.aload_n 0, 1) := by decide +kernel
theorem dX_wordCell_11 : decode bX_wordCell 11 = .ok (.iload_n 1, 1) := by decide +kernel
theorem dX_wordCell_12 : decode bX_wordCell 12 = .ok (.invokevirtual 127, 3) := by decide +kernel
theorem dX_wordCell_15 : decode bX_wordCell 15 = .ok (.if_icmp .lt 13, 3) := by decide +kernel
theorem dX_wordCell_18 : decode bX_wordCell 18 = .ok (.new 112, 3) := by decide +kernel
theorem dX_wordCell_21 : decode bX_wordCell 21 = .ok (.dup, 1) := by decide +kernel
theorem dX_wordCell_22 : decode bX_wordCell 22 = .ok (.ldc 130, 2) := by decide +kernel
theorem dX_wordCell_24 : decode bX_wordCell 24 = .ok (.invokespecial 116, 3) := by decide +kernel
theorem dX_wordCell_27 : decode bX_wordCell 27 = .ok (.athrow, 1) := by decide +kernel
theorem dX_wordCell_28 : decode bX_wordCell 28 = .ok (.iload_n 1, 1) := by decide +kernel
theorem dX_wordCell_29 : decode bX_wordCell 29 = .ok (.iconst 3, 1) := by decide +kernel
theorem dX_wordCell_30 : decode bX_wordCell 30 = .ok (.iadd, 1) := by decide +kernel
theorem dX_wordCell_31 : decode bX_wordCell 31 = .ok (.aload_n 0, 1) := by decide +kernel
theorem dX_wordCell_32 : decode bX_wordCell 32 = .ok (.iload_n 1, 1) := by decide +kernel
theorem dX_wordCell_33 : decode bX_wordCell 33 = .ok (.invokevirtual 122, 3) := by decide +kernel
theorem dX_wordCell_36 : decode bX_wordCell 36 = .ok (.iadd, 1) := by decide +kernel
theorem dX_wordCell_37 : decode bX_wordCell 37 = .ok (.iload_n 2, 1) := by decide +kernel
theorem dX_wordCell_38 : decode bX_wordCell 38 = .ok (.iadd, 1) := by decide +kernel
theorem dX_wordCell_39 : decode bX_wordCell 39 = .ok (.ireturn, 1) := by decide +kernel
theorem dX_wordsOf_0 : decode bX_wordsOf 0 = .ok (.aload_n 0, 1) := by decide +kernel
theorem dX_wordsOf_1 : decode bX_wordsOf 1 = .ok (.iload_n 1, 1) := by decide +kernel
theorem dX_wordsOf_2 : decode bX_wordsOf 2 = .ok (.iconst 0, 1) := by decide +kernel
theorem dX_wordsOf_3 : decode bX_wordsOf 3 = .ok (.iadd, 1) := by decide +kernel
theorem dX_wordsOf_4 : decode bX_wordsOf 4 = .ok (.invokevirtual 60, 3) := by decide +kernel
theorem dX_wordsOf_7 : decode bX_wordsOf 7 = .ok (.sipush 4095, 3) := by decide +kernel
theorem dX_wordsOf_10 : decode bX_wordsOf 10 = .ok (.iand, 1) := by decide +kernel
theorem dX_wordsOf_11 : decode bX_wordsOf 11 = .ok (.ireturn, 1) := by decide +kernel
theorem dX_write_0 : decode bX_write 0 = .ok (.iload_n 1, 1) := by decide +kernel
theorem dX_write_1 : decode bX_write 1 = .ok (.iconst 1, 1) := by decide +kernel
theorem dX_write_2 : decode bX_write 2 = .ok (.if_icmp .lt 19, 3) := by decide +kernel
theorem dX_write_5 : decode bX_write 5 = .ok (.iload_n 1, 1) := by decide +kernel
theorem dX_write_6 : decode bX_write 6 = .ok (.aload_n 0, 1) := by decide +kernel
theorem dX_write_7 : decode bX_write 7 = .ok (.getfield 13, 3) := by decide +kernel
theorem dX_write_10 : decode bX_write 10 = .ok (.arraylength, 1) := by decide +kernel
theorem dX_write_11 : decode bX_write 11 = .ok (.if_icmp .ge 10, 3) := by decide +kernel
theorem dX_write_14 : decode bX_write 14 = .ok (.aload_n 0, 1) := by decide +kernel
theorem dX_write_15 : decode bX_write 15 = .ok (.getfield 13, 3) := by decide +kernel
theorem dX_write_18 : decode bX_write 18 = .ok (.iload_n 1, 1) := by decide +kernel
theorem dX_write_19 : decode bX_write 19 = .ok (.iload_n 2, 1) := by decide +kernel
theorem dX_write_20 : decode bX_write 20 = .ok (.iastore, 1) := by decide +kernel
theorem dX_write_21 : decode bX_write 21 = .ok (.return_, 1) := by decide +kernel
/-! decode rows (written by wip/gen/names.py) -/
theorem dJ_fill_0 : decode bJ_fill 0 = .ok (.iconst 0, 1) := by decide +kernel
theorem dJ_fill_1 : decode bJ_fill 1 = .ok (.istore_n 2, 1) := by decide +kernel
theorem dJ_fill_2 : decode bJ_fill 2 = .ok (.aload_n 0, 1) := by decide +kernel
theorem dJ_fill_3 : decode bJ_fill 3 = .ok (.arraylength, 1) := by decide +kernel
theorem dJ_fill_4 : decode bJ_fill 4 = .ok (.istore_n 3, 1) := by decide +kernel
theorem dJ_fill_5 : decode bJ_fill 5 = .ok (.iload_n 2, 1) := by decide +kernel
theorem dJ_fill_6 : decode bJ_fill 6 = .ok (.iload_n 3, 1) := by decide +kernel
theorem dJ_fill_7 : decode bJ_fill 7 = .ok (.if_icmp .ge 13, 3) := by decide +kernel
theorem dJ_fill_10 : decode bJ_fill 10 = .ok (.aload_n 0, 1) := by decide +kernel
theorem dJ_fill_11 : decode bJ_fill 11 = .ok (.iload_n 2, 1) := by decide +kernel
theorem dJ_fill_12 : decode bJ_fill 12 = .ok (.iload_n 1, 1) := by decide +kernel
theorem dJ_fill_13 : decode bJ_fill 13 = .ok (.iastore, 1) := by decide +kernel
theorem dJ_fill_14 : decode bJ_fill 14 = .ok (.iinc 2 1, 3) := by decide +kernel
theorem dJ_fill_17 : decode bJ_fill 17 = .ok (.goto (-12), 3) := by decide +kernel
theorem dJ_fill_20 : decode bJ_fill 20 = .ok (.return_, 1) := by decide +kernel
end
section
/-! decode rows (written by wip/gen/names.py) -/
theorem dM_bring_0 : decode bM_bring 0 = .ok (.aload_n 0, 1) := by decide +kernel
theorem dM_bring_1 : decode bM_bring 1 = .ok (.getfield 26, 3) := by decide +kernel
theorem dM_bring_4 : decode bM_bring 4 = .ok (.iload_n 1, 1) := by decide +kernel
theorem dM_bring_5 : decode bM_bring 5 = .ok (.iaload, 1) := by decide +kernel
theorem dM_bring_6 : decode bM_bring 6 = .ok (.istore_n 3, 1) := by decide +kernel
theorem dM_bring_7 : decode bM_bring 7 = .ok (.aload_n 0, 1) := by decide +kernel
theorem dM_bring_8 : decode bM_bring 8 = .ok (.getfield 16, 3) := by decide +kernel
theorem dM_bring_11 : decode bM_bring 11 = .ok (.iload_n 1, 1) := by decide +kernel
theorem dM_bring_12 : decode bM_bring 12 = .ok (.iaload, 1) := by decide +kernel
theorem dM_bring_13 : decode bM_bring 13 = .ok (.istore 4, 2) := by decide +kernel
theorem dM_bring_15 : decode bM_bring 15 = .ok (.aload_n 0, 1) := by decide +kernel
theorem dM_bring_16 : decode bM_bring 16 = .ok (.getfield 20, 3) := by decide +kernel
theorem dM_bring_19 : decode bM_bring 19 = .ok (.iload_n 1, 1) := by decide +kernel
theorem dM_bring_20 : decode bM_bring 20 = .ok (.iaload, 1) := by decide +kernel
theorem dM_bring_21 : decode bM_bring 21 = .ok (.istore 5, 2) := by decide +kernel
theorem dM_bring_23 : decode bM_bring 23 = .ok (.aload_n 0, 1) := by decide +kernel
theorem dM_bring_24 : decode bM_bring 24 = .ok (.getfield 23, 3) := by decide +kernel
theorem dM_bring_27 : decode bM_bring 27 = .ok (.iload_n 1, 1) := by decide +kernel
theorem dM_bring_28 : decode bM_bring 28 = .ok (.iaload, 1) := by decide +kernel
theorem dM_bring_29 : decode bM_bring 29 = .ok (.istore 6, 2) := by decide +kernel
theorem dM_bring_31 : decode bM_bring 31 = .ok (.aload_n 0, 1) := by decide +kernel
theorem dM_bring_32 : decode bM_bring 32 = .ok (.getfield 16, 3) := by decide +kernel
theorem dM_bring_35 : decode bM_bring 35 = .ok (.iload_n 1, 1) := by decide +kernel
theorem dM_bring_36 : decode bM_bring 36 = .ok (.iconst 0, 1) := by decide +kernel
theorem dM_bring_37 : decode bM_bring 37 = .ok (.iastore, 1) := by decide +kernel
theorem dM_bring_38 : decode bM_bring 38 = .ok (.aload_n 0, 1) := by decide +kernel
theorem dM_bring_39 : decode bM_bring 39 = .ok (.getfield 20, 3) := by decide +kernel
theorem dM_bring_42 : decode bM_bring 42 = .ok (.iload_n 1, 1) := by decide +kernel
theorem dM_bring_43 : decode bM_bring 43 = .ok (.iconst 0, 1) := by decide +kernel
theorem dM_bring_44 : decode bM_bring 44 = .ok (.iastore, 1) := by decide +kernel
theorem dM_bring_45 : decode bM_bring 45 = .ok (.aload_n 0, 1) := by decide +kernel
theorem dM_bring_46 : decode bM_bring 46 = .ok (.getfield 23, 3) := by decide +kernel
theorem dM_bring_49 : decode bM_bring 49 = .ok (.iload_n 1, 1) := by decide +kernel
theorem dM_bring_50 : decode bM_bring 50 = .ok (.iconst 0, 1) := by decide +kernel
theorem dM_bring_51 : decode bM_bring 51 = .ok (.iastore, 1) := by decide +kernel
theorem dM_bring_52 : decode bM_bring 52 = .ok (.iconst 0, 1) := by decide +kernel
theorem dM_bring_53 : decode bM_bring 53 = .ok (.istore 7, 2) := by decide +kernel
theorem dM_bring_55 : decode bM_bring 55 = .ok (.iload 7, 2) := by decide +kernel
theorem dM_bring_57 : decode bM_bring 57 = .ok (.iload_n 2, 1) := by decide +kernel
theorem dM_bring_58 : decode bM_bring 58 = .ok (.if_icmp .ge 27, 3) := by decide +kernel
theorem dM_bring_61 : decode bM_bring 61 = .ok (.aload_n 0, 1) := by decide +kernel
theorem dM_bring_62 : decode bM_bring 62 = .ok (.getfield 33, 3) := by decide +kernel
theorem dM_bring_65 : decode bM_bring 65 = .ok (.iload_n 3, 1) := by decide +kernel
theorem dM_bring_66 : decode bM_bring 66 = .ok (.iload 7, 2) := by decide +kernel
theorem dM_bring_68 : decode bM_bring 68 = .ok (.iadd, 1) := by decide +kernel
theorem dM_bring_69 : decode bM_bring 69 = .ok (.aload_n 0, 1) := by decide +kernel
theorem dM_bring_70 : decode bM_bring 70 = .ok (.getfield 33, 3) := by decide +kernel
theorem dM_bring_73 : decode bM_bring 73 = .ok (.iload_n 1, 1) := by decide +kernel
theorem dM_bring_74 : decode bM_bring 74 = .ok (.iload 7, 2) := by decide +kernel
theorem dM_bring_76 : decode bM_bring 76 = .ok (.iadd, 1) := by decide +kernel
theorem dM_bring_77 : decode bM_bring 77 = .ok (.iaload, 1) := by decide +kernel
theorem dM_bring_78 : decode bM_bring 78 = .ok (.iastore, 1) := by decide +kernel
theorem dM_bring_79 : decode bM_bring 79 = .ok (.iinc 7 1, 3) := by decide +kernel
theorem dM_bring_82 : decode bM_bring 82 = .ok (.goto (-27), 3) := by decide +kernel
theorem dM_bring_85 : decode bM_bring 85 = .ok (.aload_n 0, 1) := by decide +kernel
theorem dM_bring_86 : decode bM_bring 86 = .ok (.getfield 16, 3) := by decide +kernel
theorem dM_bring_89 : decode bM_bring 89 = .ok (.iload_n 3, 1) := by decide +kernel
theorem dM_bring_90 : decode bM_bring 90 = .ok (.iload 4, 2) := by decide +kernel
theorem dM_bring_92 : decode bM_bring 92 = .ok (.iastore, 1) := by decide +kernel
theorem dM_bring_93 : decode bM_bring 93 = .ok (.aload_n 0, 1) := by decide +kernel
theorem dM_bring_94 : decode bM_bring 94 = .ok (.getfield 20, 3) := by decide +kernel
theorem dM_bring_97 : decode bM_bring 97 = .ok (.iload_n 3, 1) := by decide +kernel
theorem dM_bring_98 : decode bM_bring 98 = .ok (.iload 5, 2) := by decide +kernel
theorem dM_bring_100 : decode bM_bring 100 = .ok (.iastore, 1) := by decide +kernel
theorem dM_bring_101 : decode bM_bring 101 = .ok (.aload_n 0, 1) := by decide +kernel
theorem dM_bring_102 : decode bM_bring 102 = .ok (.getfield 23, 3) := by decide +kernel
theorem dM_bring_105 : decode bM_bring 105 = .ok (.iload_n 3, 1) := by decide +kernel
theorem dM_bring_106 : decode bM_bring 106 = .ok (.iload 6, 2) := by decide +kernel
theorem dM_bring_108 : decode bM_bring 108 = .ok (.iastore, 1) := by decide +kernel
theorem dM_bring_109 : decode bM_bring 109 = .ok (.return_, 1) := by decide +kernel
theorem dM_count_0 : decode bM_count 0 = .ok (.aload_n 0, 1) := by decide +kernel
theorem dM_count_1 : decode bM_count 1 = .ok (.iload_n 1, 1) := by decide +kernel
theorem dM_count_2 : decode bM_count 2 = .ok (.ifCond .lt 13, 3) := by decide +kernel
theorem dM_count_5 : decode bM_count 5 = .ok (.iload_n 1, 1) := by decide +kernel
theorem dM_count_6 : decode bM_count 6 = .ok (.bipush 6, 2) := by decide +kernel
theorem dM_count_8 : decode bM_count 8 = .ok (.if_icmp .gt 7, 3) := by decide +kernel
theorem dM_count_11 : decode bM_count 11 = .ok (.iconst 1, 1) := by decide +kernel
theorem dM_count_12 : decode bM_count 12 = .ok (.goto 4, 3) := by decide +kernel
theorem dM_count_15 : decode bM_count 15 = .ok (.iconst 0, 1) := by decide +kernel
theorem dM_count_16 : decode bM_count 16 = .ok (.invokevirtual 42, 3) := by decide +kernel
theorem dM_count_19 : decode bM_count 19 = .ok (.ifCond .ne 5, 3) := by decide +kernel
theorem dM_count_22 : decode bM_count 22 = .ok (.iconst 0, 1) := by decide +kernel
theorem dM_count_23 : decode bM_count 23 = .ok (.ireturn, 1) := by decide +kernel
theorem dM_count_24 : decode bM_count 24 = .ok (.iload_n 1, 1) := by decide +kernel
theorem dM_count_25 : decode bM_count 25 = .ok (.tableswitch 71 0 5 #[39, 44, 51, 56, 61, 66], 39) := by decide +kernel
theorem dM_count_64 : decode bM_count 64 = .ok (.aload_n 0, 1) := by decide +kernel
theorem dM_count_65 : decode bM_count 65 = .ok (.invokevirtual 77, 3) := by decide +kernel
theorem dM_count_68 : decode bM_count 68 = .ok (.ireturn, 1) := by decide +kernel
theorem dM_count_69 : decode bM_count 69 = .ok (.aload_n 0, 1) := by decide +kernel
theorem dM_count_70 : decode bM_count 70 = .ok (.getfield 13, 3) := by decide +kernel
theorem dM_count_73 : decode bM_count 73 = .ok (.iconst 1, 1) := by decide +kernel
theorem dM_count_74 : decode bM_count 74 = .ok (.isub, 1) := by decide +kernel
theorem dM_count_75 : decode bM_count 75 = .ok (.ireturn, 1) := by decide +kernel
theorem dM_count_76 : decode bM_count 76 = .ok (.aload_n 0, 1) := by decide +kernel
theorem dM_count_77 : decode bM_count 77 = .ok (.invokevirtual 73, 3) := by decide +kernel
theorem dM_count_80 : decode bM_count 80 = .ok (.ireturn, 1) := by decide +kernel
theorem dM_count_81 : decode bM_count 81 = .ok (.aload_n 0, 1) := by decide +kernel
theorem dM_count_82 : decode bM_count 82 = .ok (.getfield 46, 3) := by decide +kernel
theorem dM_count_85 : decode bM_count 85 = .ok (.ireturn, 1) := by decide +kernel
theorem dM_count_86 : decode bM_count 86 = .ok (.aload_n 0, 1) := by decide +kernel
theorem dM_count_87 : decode bM_count 87 = .ok (.getfield 49, 3) := by decide +kernel
theorem dM_count_90 : decode bM_count 90 = .ok (.ireturn, 1) := by decide +kernel
theorem dM_count_91 : decode bM_count 91 = .ok (.aload_n 0, 1) := by decide +kernel
theorem dM_count_92 : decode bM_count 92 = .ok (.getfield 52, 3) := by decide +kernel
theorem dM_count_95 : decode bM_count 95 = .ok (.ireturn, 1) := by decide +kernel
theorem dM_count_96 : decode bM_count 96 = .ok (.aload_n 0, 1) := by decide +kernel
theorem dM_count_97 : decode bM_count 97 = .ok (.getfield 7, 3) := by decide +kernel
theorem dM_count_100 : decode bM_count 100 = .ok (.ireturn, 1) := by decide +kernel
theorem dM_find_0 : decode bM_find 0 = .ok (.aload_n 0, 1) := by decide +kernel
theorem dM_find_1 : decode bM_find 1 = .ok (.iconst 0, 1) := by decide +kernel
theorem dM_find_2 : decode bM_find 2 = .ok (.putfield 39, 3) := by decide +kernel
theorem dM_find_5 : decode bM_find 5 = .ok (.iconst 1, 1) := by decide +kernel
theorem dM_find_6 : decode bM_find 6 = .ok (.istore_n 2, 1) := by decide +kernel
theorem dM_find_7 : decode bM_find 7 = .ok (.iload_n 2, 1) := by decide +kernel
theorem dM_find_8 : decode bM_find 8 = .ok (.aload_n 0, 1) := by decide +kernel
theorem dM_find_9 : decode bM_find 9 = .ok (.getfield 13, 3) := by decide +kernel
theorem dM_find_12 : decode bM_find 12 = .ok (.if_icmp .ge 40, 3) := by decide +kernel
theorem dM_find_15 : decode bM_find 15 = .ok (.iload_n 1, 1) := by decide +kernel
theorem dM_find_16 : decode bM_find 16 = .ok (.ifCond .lt 36, 3) := by decide +kernel
theorem dM_find_19 : decode bM_find 19 = .ok (.iload_n 1, 1) := by decide +kernel
theorem dM_find_20 : decode bM_find 20 = .ok (.aload_n 0, 1) := by decide +kernel
theorem dM_find_21 : decode bM_find 21 = .ok (.getfield 52, 3) := by decide +kernel
theorem dM_find_24 : decode bM_find 24 = .ok (.if_icmp .ge 28, 3) := by decide +kernel
theorem dM_find_27 : decode bM_find 27 = .ok (.aload_n 0, 1) := by decide +kernel
theorem dM_find_28 : decode bM_find 28 = .ok (.getfield 23, 3) := by decide +kernel
theorem dM_find_31 : decode bM_find 31 = .ok (.iload_n 2, 1) := by decide +kernel
theorem dM_find_32 : decode bM_find 32 = .ok (.iaload, 1) := by decide +kernel
theorem dM_find_33 : decode bM_find 33 = .ok (.iload_n 1, 1) := by decide +kernel
theorem dM_find_34 : decode bM_find 34 = .ok (.iconst 1, 1) := by decide +kernel
theorem dM_find_35 : decode bM_find 35 = .ok (.iadd, 1) := by decide +kernel
theorem dM_find_36 : decode bM_find 36 = .ok (.if_icmp .ne 5, 3) := by decide +kernel
theorem dM_find_39 : decode bM_find 39 = .ok (.iload_n 2, 1) := by decide +kernel
theorem dM_find_40 : decode bM_find 40 = .ok (.ireturn, 1) := by decide +kernel
theorem dM_find_41 : decode bM_find 41 = .ok (.iload_n 2, 1) := by decide +kernel
theorem dM_find_42 : decode bM_find 42 = .ok (.aload_n 0, 1) := by decide +kernel
theorem dM_find_43 : decode bM_find 43 = .ok (.iload_n 2, 1) := by decide +kernel
theorem dM_find_44 : decode bM_find 44 = .ok (.invokevirtual 69, 3) := by decide +kernel
theorem dM_find_47 : decode bM_find 47 = .ok (.iadd, 1) := by decide +kernel
theorem dM_find_48 : decode bM_find 48 = .ok (.istore_n 2, 1) := by decide +kernel
theorem dM_find_49 : decode bM_find 49 = .ok (.goto (-42), 3) := by decide +kernel
theorem dM_find_52 : decode bM_find 52 = .ok (.iconst 0, 1) := by decide +kernel
theorem dM_find_53 : decode bM_find 53 = .ok (.ireturn, 1) := by decide +kernel
theorem dM_get_0 : decode bM_get 0 = .ok (.aload_n 0, 1) := by decide +kernel
theorem dM_get_1 : decode bM_get 1 = .ok (.aload_n 0, 1) := by decide +kernel
theorem dM_get_2 : decode bM_get 2 = .ok (.iload_n 1, 1) := by decide +kernel
theorem dM_get_3 : decode bM_get 3 = .ok (.iload_n 2, 1) := by decide +kernel
theorem dM_get_4 : decode bM_get 4 = .ok (.invokevirtual 59, 3) := by decide +kernel
theorem dM_get_7 : decode bM_get 7 = .ok (.invokevirtual 42, 3) := by decide +kernel
theorem dM_get_10 : decode bM_get 10 = .ok (.ifCond .eq 16, 3) := by decide +kernel
theorem dM_get_13 : decode bM_get 13 = .ok (.aload_n 0, 1) := by decide +kernel
theorem dM_get_14 : decode bM_get 14 = .ok (.getfield 33, 3) := by decide +kernel
theorem dM_get_17 : decode bM_get 17 = .ok (.iload_n 1, 1) := by decide +kernel
theorem dM_get_18 : decode bM_get 18 = .ok (.iconst 3, 1) := by decide +kernel
theorem dM_get_19 : decode bM_get 19 = .ok (.iadd, 1) := by decide +kernel
theorem dM_get_20 : decode bM_get 20 = .ok (.iload_n 2, 1) := by decide +kernel
theorem dM_get_21 : decode bM_get 21 = .ok (.iadd, 1) := by decide +kernel
theorem dM_get_22 : decode bM_get 22 = .ok (.iaload, 1) := by decide +kernel
theorem dM_get_23 : decode bM_get 23 = .ok (.goto 4, 3) := by decide +kernel
theorem dM_get_26 : decode bM_get 26 = .ok (.iconst 0, 1) := by decide +kernel
theorem dM_get_27 : decode bM_get 27 = .ok (.ireturn, 1) := by decide +kernel
theorem dM_goes_0 : decode bM_goes 0 = .ok (.aload_n 0, 1) := by decide +kernel
theorem dM_goes_1 : decode bM_goes 1 = .ok (.iload_n 1, 1) := by decide +kernel
theorem dM_goes_2 : decode bM_goes 2 = .ok (.ifCond .eq 7, 3) := by decide +kernel
theorem dM_goes_5 : decode bM_goes 5 = .ok (.iconst 0, 1) := by decide +kernel
theorem dM_goes_6 : decode bM_goes 6 = .ok (.goto 4, 3) := by decide +kernel
theorem dM_goes_9 : decode bM_goes 9 = .ok (.iconst 1, 1) := by decide +kernel
theorem dM_goes_10 : decode bM_goes 10 = .ok (.putfield 39, 3) := by decide +kernel
theorem dM_goes_13 : decode bM_goes 13 = .ok (.iload_n 1, 1) := by decide +kernel
theorem dM_goes_14 : decode bM_goes 14 = .ok (.ireturn, 1) := by decide +kernel
theorem dM_init_0 : decode bM_init 0 = .ok (.aload_n 0, 1) := by decide +kernel
theorem dM_init_1 : decode bM_init 1 = .ok (.invokespecial 1, 3) := by decide +kernel
theorem dM_init_4 : decode bM_init 4 = .ok (.aload_n 0, 1) := by decide +kernel
theorem dM_init_5 : decode bM_init 5 = .ok (.sipush 2048, 3) := by decide +kernel
theorem dM_init_8 : decode bM_init 8 = .ok (.putfield 7, 3) := by decide +kernel
theorem dM_init_11 : decode bM_init 11 = .ok (.aload_n 0, 1) := by decide +kernel
theorem dM_init_12 : decode bM_init 12 = .ok (.iconst 1, 1) := by decide +kernel
theorem dM_init_13 : decode bM_init 13 = .ok (.putfield 13, 3) := by decide +kernel
theorem dM_init_16 : decode bM_init 16 = .ok (.aload_n 0, 1) := by decide +kernel
theorem dM_init_17 : decode bM_init 17 = .ok (.sipush 16386, 3) := by decide +kernel
theorem dM_init_20 : decode bM_init 20 = .ok (.newarray .int, 2) := by decide +kernel
theorem dM_init_22 : decode bM_init 22 = .ok (.putfield 16, 3) := by decide +kernel
theorem dM_init_25 : decode bM_init 25 = .ok (.aload_n 0, 1) := by decide +kernel
theorem dM_init_26 : decode bM_init 26 = .ok (.sipush 16386, 3) := by decide +kernel
theorem dM_init_29 : decode bM_init 29 = .ok (.newarray .int, 2) := by decide +kernel
theorem dM_init_31 : decode bM_init 31 = .ok (.putfield 20, 3) := by decide +kernel
theorem dM_init_34 : decode bM_init 34 = .ok (.aload_n 0, 1) := by decide +kernel
theorem dM_init_35 : decode bM_init 35 = .ok (.sipush 16386, 3) := by decide +kernel
theorem dM_init_38 : decode bM_init 38 = .ok (.newarray .int, 2) := by decide +kernel
theorem dM_init_40 : decode bM_init 40 = .ok (.putfield 23, 3) := by decide +kernel
theorem dM_init_43 : decode bM_init 43 = .ok (.aload_n 0, 1) := by decide +kernel
theorem dM_init_44 : decode bM_init 44 = .ok (.sipush 16386, 3) := by decide +kernel
theorem dM_init_47 : decode bM_init 47 = .ok (.newarray .int, 2) := by decide +kernel
theorem dM_init_49 : decode bM_init 49 = .ok (.putfield 26, 3) := by decide +kernel
theorem dM_init_52 : decode bM_init 52 = .ok (.aload_n 0, 1) := by decide +kernel
theorem dM_init_53 : decode bM_init 53 = .ok (.sipush 16386, 3) := by decide +kernel
theorem dM_init_56 : decode bM_init 56 = .ok (.newarray .boolean, 2) := by decide +kernel
theorem dM_init_58 : decode bM_init 58 = .ok (.putfield 29, 3) := by decide +kernel
theorem dM_init_61 : decode bM_init 61 = .ok (.aload_n 0, 1) := by decide +kernel
theorem dM_init_62 : decode bM_init 62 = .ok (.sipush 16386, 3) := by decide +kernel
theorem dM_init_65 : decode bM_init 65 = .ok (.newarray .int, 2) := by decide +kernel
theorem dM_init_67 : decode bM_init 67 = .ok (.putfield 33, 3) := by decide +kernel
theorem dM_init_70 : decode bM_init 70 = .ok (.aload_n 0, 1) := by decide +kernel
theorem dM_init_71 : decode bM_init 71 = .ok (.bipush 16, 2) := by decide +kernel
theorem dM_init_73 : decode bM_init 73 = .ok (.newarray .int, 2) := by decide +kernel
theorem dM_init_75 : decode bM_init 75 = .ok (.putfield 36, 3) := by decide +kernel
theorem dM_init_78 : decode bM_init 78 = .ok (.return_, 1) := by decide +kernel
theorem dM_isField_0 : decode bM_isField 0 = .ok (.aload_n 0, 1) := by decide +kernel
theorem dM_isField_1 : decode bM_isField 1 = .ok (.iload_n 1, 1) := by decide +kernel
theorem dM_isField_2 : decode bM_isField 2 = .ok (.invokevirtual 55, 3) := by decide +kernel
theorem dM_isField_5 : decode bM_isField 5 = .ok (.ifCond .eq 23, 3) := by decide +kernel
theorem dM_isField_8 : decode bM_isField 8 = .ok (.iload_n 2, 1) := by decide +kernel
theorem dM_isField_9 : decode bM_isField 9 = .ok (.ifCond .lt 19, 3) := by decide +kernel
theorem dM_isField_12 : decode bM_isField 12 = .ok (.iload_n 2, 1) := by decide +kernel
theorem dM_isField_13 : decode bM_isField 13 = .ok (.aload_n 0, 1) := by decide +kernel
theorem dM_isField_14 : decode bM_isField 14 = .ok (.getfield 16, 3) := by decide +kernel
theorem dM_isField_17 : decode bM_isField 17 = .ok (.iload_n 1, 1) := by decide +kernel
theorem dM_isField_18 : decode bM_isField 18 = .ok (.iaload, 1) := by decide +kernel
theorem dM_isField_19 : decode bM_isField 19 = .ok (.iconst 1, 1) := by decide +kernel
theorem dM_isField_20 : decode bM_isField 20 = .ok (.isub, 1) := by decide +kernel
theorem dM_isField_21 : decode bM_isField 21 = .ok (.if_icmp .ge 7, 3) := by decide +kernel
theorem dM_isField_24 : decode bM_isField 24 = .ok (.iconst 1, 1) := by decide +kernel
theorem dM_isField_25 : decode bM_isField 25 = .ok (.goto 4, 3) := by decide +kernel
theorem dM_isField_28 : decode bM_isField 28 = .ok (.iconst 0, 1) := by decide +kernel
theorem dM_isField_29 : decode bM_isField 29 = .ok (.ireturn, 1) := by decide +kernel
theorem dM_isObject_0 : decode bM_isObject 0 = .ok (.iload_n 1, 1) := by decide +kernel
theorem dM_isObject_1 : decode bM_isObject 1 = .ok (.iconst 1, 1) := by decide +kernel
theorem dM_isObject_2 : decode bM_isObject 2 = .ok (.if_icmp .lt 24, 3) := by decide +kernel
theorem dM_isObject_5 : decode bM_isObject 5 = .ok (.iload_n 1, 1) := by decide +kernel
theorem dM_isObject_6 : decode bM_isObject 6 = .ok (.aload_n 0, 1) := by decide +kernel
theorem dM_isObject_7 : decode bM_isObject 7 = .ok (.getfield 13, 3) := by decide +kernel
theorem dM_isObject_10 : decode bM_isObject 10 = .ok (.if_icmp .ge 16, 3) := by decide +kernel
theorem dM_isObject_13 : decode bM_isObject 13 = .ok (.aload_n 0, 1) := by decide +kernel
theorem dM_isObject_14 : decode bM_isObject 14 = .ok (.getfield 16, 3) := by decide +kernel
theorem dM_isObject_17 : decode bM_isObject 17 = .ok (.iload_n 1, 1) := by decide +kernel
theorem dM_isObject_18 : decode bM_isObject 18 = .ok (.iaload, 1) := by decide +kernel
theorem dM_isObject_19 : decode bM_isObject 19 = .ok (.ifCond .le 7, 3) := by decide +kernel
theorem dM_isObject_22 : decode bM_isObject 22 = .ok (.iconst 1, 1) := by decide +kernel
theorem dM_isObject_23 : decode bM_isObject 23 = .ok (.goto 4, 3) := by decide +kernel
theorem dM_isObject_26 : decode bM_isObject 26 = .ok (.iconst 0, 1) := by decide +kernel
theorem dM_isObject_27 : decode bM_isObject 27 = .ok (.ireturn, 1) := by decide +kernel
theorem dM_isRoot_0 : decode bM_isRoot 0 = .ok (.iload_n 0, 1) := by decide +kernel
theorem dM_isRoot_1 : decode bM_isRoot 1 = .ok (.ifCond .lt 13, 3) := by decide +kernel
theorem dM_isRoot_4 : decode bM_isRoot 4 = .ok (.iload_n 0, 1) := by decide +kernel
theorem dM_isRoot_5 : decode bM_isRoot 5 = .ok (.bipush 15, 2) := by decide +kernel
theorem dM_isRoot_7 : decode bM_isRoot 7 = .ok (.if_icmp .gt 7, 3) := by decide +kernel
theorem dM_isRoot_10 : decode bM_isRoot 10 = .ok (.iconst 1, 1) := by decide +kernel
theorem dM_isRoot_11 : decode bM_isRoot 11 = .ok (.goto 4, 3) := by decide +kernel
theorem dM_isRoot_14 : decode bM_isRoot 14 = .ok (.iconst 0, 1) := by decide +kernel
theorem dM_isRoot_15 : decode bM_isRoot 15 = .ok (.ireturn, 1) := by decide +kernel
theorem dM_isWord_0 : decode bM_isWord 0 = .ok (.aload_n 0, 1) := by decide +kernel
theorem dM_isWord_1 : decode bM_isWord 1 = .ok (.iload_n 1, 1) := by decide +kernel
theorem dM_isWord_2 : decode bM_isWord 2 = .ok (.invokevirtual 55, 3) := by decide +kernel
theorem dM_isWord_5 : decode bM_isWord 5 = .ok (.ifCond .eq 21, 3) := by decide +kernel
theorem dM_isWord_8 : decode bM_isWord 8 = .ok (.iload_n 2, 1) := by decide +kernel
theorem dM_isWord_9 : decode bM_isWord 9 = .ok (.ifCond .lt 17, 3) := by decide +kernel
theorem dM_isWord_12 : decode bM_isWord 12 = .ok (.iload_n 2, 1) := by decide +kernel
theorem dM_isWord_13 : decode bM_isWord 13 = .ok (.aload_n 0, 1) := by decide +kernel
theorem dM_isWord_14 : decode bM_isWord 14 = .ok (.getfield 20, 3) := by decide +kernel
theorem dM_isWord_17 : decode bM_isWord 17 = .ok (.iload_n 1, 1) := by decide +kernel
theorem dM_isWord_18 : decode bM_isWord 18 = .ok (.iaload, 1) := by decide +kernel
theorem dM_isWord_19 : decode bM_isWord 19 = .ok (.if_icmp .ge 7, 3) := by decide +kernel
theorem dM_isWord_22 : decode bM_isWord 22 = .ok (.iconst 1, 1) := by decide +kernel
theorem dM_isWord_23 : decode bM_isWord 23 = .ok (.goto 4, 3) := by decide +kernel
theorem dM_isWord_26 : decode bM_isWord 26 = .ok (.iconst 0, 1) := by decide +kernel
theorem dM_isWord_27 : decode bM_isWord 27 = .ok (.ireturn, 1) := by decide +kernel
theorem dM_make_0 : decode bM_make 0 = .ok (.aload_n 0, 1) := by decide +kernel
theorem dM_make_1 : decode bM_make 1 = .ok (.iload_n 1, 1) := by decide +kernel
theorem dM_make_2 : decode bM_make 2 = .ok (.ifCond .lt 25, 3) := by decide +kernel
theorem dM_make_5 : decode bM_make 5 = .ok (.iload_n 1, 1) := by decide +kernel
theorem dM_make_6 : decode bM_make 6 = .ok (.sipush 2000, 3) := by decide +kernel
theorem dM_make_9 : decode bM_make 9 = .ok (.if_icmp .gt 18, 3) := by decide +kernel
theorem dM_make_12 : decode bM_make 12 = .ok (.iload_n 2, 1) := by decide +kernel
theorem dM_make_13 : decode bM_make 13 = .ok (.ifCond .lt 14, 3) := by decide +kernel
theorem dM_make_16 : decode bM_make 16 = .ok (.iload_n 2, 1) := by decide +kernel
theorem dM_make_17 : decode bM_make 17 = .ok (.sipush 2000, 3) := by decide +kernel
theorem dM_make_20 : decode bM_make 20 = .ok (.if_icmp .gt 7, 3) := by decide +kernel
theorem dM_make_23 : decode bM_make 23 = .ok (.iconst 1, 1) := by decide +kernel
theorem dM_make_24 : decode bM_make 24 = .ok (.goto 4, 3) := by decide +kernel
theorem dM_make_27 : decode bM_make 27 = .ok (.iconst 0, 1) := by decide +kernel
theorem dM_make_28 : decode bM_make 28 = .ok (.invokevirtual 42, 3) := by decide +kernel
theorem dM_make_31 : decode bM_make 31 = .ok (.ifCond .ne 5, 3) := by decide +kernel
theorem dM_make_34 : decode bM_make 34 = .ok (.iconst 0, 1) := by decide +kernel
theorem dM_make_35 : decode bM_make 35 = .ok (.ireturn, 1) := by decide +kernel
theorem dM_make_36 : decode bM_make 36 = .ok (.iconst 3, 1) := by decide +kernel
theorem dM_make_37 : decode bM_make 37 = .ok (.iload_n 1, 1) := by decide +kernel
theorem dM_make_38 : decode bM_make 38 = .ok (.iadd, 1) := by decide +kernel
theorem dM_make_39 : decode bM_make 39 = .ok (.iload_n 2, 1) := by decide +kernel
theorem dM_make_40 : decode bM_make 40 = .ok (.iadd, 1) := by decide +kernel
theorem dM_make_41 : decode bM_make 41 = .ok (.istore_n 3, 1) := by decide +kernel
theorem dM_make_42 : decode bM_make 42 = .ok (.aload_n 0, 1) := by decide +kernel
theorem dM_make_43 : decode bM_make 43 = .ok (.getfield 13, 3) := by decide +kernel
theorem dM_make_46 : decode bM_make 46 = .ok (.iload_n 3, 1) := by decide +kernel
theorem dM_make_47 : decode bM_make 47 = .ok (.iadd, 1) := by decide +kernel
theorem dM_make_48 : decode bM_make 48 = .ok (.iconst 1, 1) := by decide +kernel
theorem dM_make_49 : decode bM_make 49 = .ok (.isub, 1) := by decide +kernel
theorem dM_make_50 : decode bM_make 50 = .ok (.aload_n 0, 1) := by decide +kernel
theorem dM_make_51 : decode bM_make 51 = .ok (.getfield 7, 3) := by decide +kernel
theorem dM_make_54 : decode bM_make 54 = .ok (.if_icmp .le 5, 3) := by decide +kernel
theorem dM_make_57 : decode bM_make 57 = .ok (.iconst 0, 1) := by decide +kernel
theorem dM_make_58 : decode bM_make 58 = .ok (.ireturn, 1) := by decide +kernel
theorem dM_make_59 : decode bM_make 59 = .ok (.aload_n 0, 1) := by decide +kernel
theorem dM_make_60 : decode bM_make 60 = .ok (.getfield 13, 3) := by decide +kernel
theorem dM_make_63 : decode bM_make 63 = .ok (.istore 4, 2) := by decide +kernel
theorem dM_make_65 : decode bM_make 65 = .ok (.aload_n 0, 1) := by decide +kernel
theorem dM_make_66 : decode bM_make 66 = .ok (.aload_n 0, 1) := by decide +kernel
theorem dM_make_67 : decode bM_make 67 = .ok (.getfield 13, 3) := by decide +kernel
theorem dM_make_70 : decode bM_make 70 = .ok (.iload_n 3, 1) := by decide +kernel
theorem dM_make_71 : decode bM_make 71 = .ok (.iadd, 1) := by decide +kernel
theorem dM_make_72 : decode bM_make 72 = .ok (.putfield 13, 3) := by decide +kernel
theorem dM_make_75 : decode bM_make 75 = .ok (.aload_n 0, 1) := by decide +kernel
theorem dM_make_76 : decode bM_make 76 = .ok (.getfield 16, 3) := by decide +kernel
theorem dM_make_79 : decode bM_make 79 = .ok (.iload 4, 2) := by decide +kernel
theorem dM_make_81 : decode bM_make 81 = .ok (.iload_n 1, 1) := by decide +kernel
theorem dM_make_82 : decode bM_make 82 = .ok (.iconst 1, 1) := by decide +kernel
theorem dM_make_83 : decode bM_make 83 = .ok (.iadd, 1) := by decide +kernel
theorem dM_make_84 : decode bM_make 84 = .ok (.iastore, 1) := by decide +kernel
theorem dM_make_85 : decode bM_make 85 = .ok (.aload_n 0, 1) := by decide +kernel
theorem dM_make_86 : decode bM_make 86 = .ok (.getfield 20, 3) := by decide +kernel
theorem dM_make_89 : decode bM_make 89 = .ok (.iload 4, 2) := by decide +kernel
theorem dM_make_91 : decode bM_make 91 = .ok (.iload_n 2, 1) := by decide +kernel
theorem dM_make_92 : decode bM_make 92 = .ok (.iastore, 1) := by decide +kernel
theorem dM_make_93 : decode bM_make 93 = .ok (.aload_n 0, 1) := by decide +kernel
theorem dM_make_94 : decode bM_make 94 = .ok (.getfield 23, 3) := by decide +kernel
theorem dM_make_97 : decode bM_make 97 = .ok (.iload 4, 2) := by decide +kernel
theorem dM_make_99 : decode bM_make 99 = .ok (.iconst 0, 1) := by decide +kernel
theorem dM_make_100 : decode bM_make 100 = .ok (.iastore, 1) := by decide +kernel
theorem dM_make_101 : decode bM_make 101 = .ok (.iconst 0, 1) := by decide +kernel
theorem dM_make_102 : decode bM_make 102 = .ok (.istore 5, 2) := by decide +kernel
theorem dM_make_104 : decode bM_make 104 = .ok (.iload 5, 2) := by decide +kernel
theorem dM_make_106 : decode bM_make 106 = .ok (.iload_n 3, 1) := by decide +kernel
theorem dM_make_107 : decode bM_make 107 = .ok (.if_icmp .ge 20, 3) := by decide +kernel
theorem dM_make_110 : decode bM_make 110 = .ok (.aload_n 0, 1) := by decide +kernel
theorem dM_make_111 : decode bM_make 111 = .ok (.getfield 33, 3) := by decide +kernel
theorem dM_make_114 : decode bM_make 114 = .ok (.iload 4, 2) := by decide +kernel
theorem dM_make_116 : decode bM_make 116 = .ok (.iload 5, 2) := by decide +kernel
theorem dM_make_118 : decode bM_make 118 = .ok (.iadd, 1) := by decide +kernel
theorem dM_make_119 : decode bM_make 119 = .ok (.iconst 0, 1) := by decide +kernel
theorem dM_make_120 : decode bM_make 120 = .ok (.iastore, 1) := by decide +kernel
theorem dM_make_121 : decode bM_make 121 = .ok (.iinc 5 1, 3) := by decide +kernel
theorem dM_make_124 : decode bM_make 124 = .ok (.goto (-20), 3) := by decide +kernel
theorem dM_make_127 : decode bM_make 127 = .ok (.iload 4, 2) := by decide +kernel
theorem dM_make_129 : decode bM_make 129 = .ok (.ireturn, 1) := by decide +kernel
theorem dM_next_0 : decode bM_next 0 = .ok (.aload_n 0, 1) := by decide +kernel
theorem dM_next_1 : decode bM_next 1 = .ok (.iload_n 1, 1) := by decide +kernel
theorem dM_next_2 : decode bM_next 2 = .ok (.ifCond .eq 11, 3) := by decide +kernel
theorem dM_next_5 : decode bM_next 5 = .ok (.aload_n 0, 1) := by decide +kernel
theorem dM_next_6 : decode bM_next 6 = .ok (.iload_n 1, 1) := by decide +kernel
theorem dM_next_7 : decode bM_next 7 = .ok (.invokevirtual 55, 3) := by decide +kernel
theorem dM_next_10 : decode bM_next 10 = .ok (.ifCond .eq 7, 3) := by decide +kernel
theorem dM_next_13 : decode bM_next 13 = .ok (.iconst 1, 1) := by decide +kernel
theorem dM_next_14 : decode bM_next 14 = .ok (.goto 4, 3) := by decide +kernel
theorem dM_next_17 : decode bM_next 17 = .ok (.iconst 0, 1) := by decide +kernel
theorem dM_next_18 : decode bM_next 18 = .ok (.invokevirtual 42, 3) := by decide +kernel
theorem dM_next_21 : decode bM_next 21 = .ok (.ifCond .ne 5, 3) := by decide +kernel
theorem dM_next_24 : decode bM_next 24 = .ok (.iconst 0, 1) := by decide +kernel
theorem dM_next_25 : decode bM_next 25 = .ok (.ireturn, 1) := by decide +kernel
theorem dM_next_26 : decode bM_next 26 = .ok (.iload_n 1, 1) := by decide +kernel
theorem dM_next_27 : decode bM_next 27 = .ok (.ifCond .ne 7, 3) := by decide +kernel
theorem dM_next_30 : decode bM_next 30 = .ok (.iconst 1, 1) := by decide +kernel
theorem dM_next_31 : decode bM_next 31 = .ok (.goto 10, 3) := by decide +kernel
theorem dM_next_34 : decode bM_next 34 = .ok (.iload_n 1, 1) := by decide +kernel
theorem dM_next_35 : decode bM_next 35 = .ok (.aload_n 0, 1) := by decide +kernel
theorem dM_next_36 : decode bM_next 36 = .ok (.iload_n 1, 1) := by decide +kernel
theorem dM_next_37 : decode bM_next 37 = .ok (.invokevirtual 69, 3) := by decide +kernel
theorem dM_next_40 : decode bM_next 40 = .ok (.iadd, 1) := by decide +kernel
theorem dM_next_41 : decode bM_next 41 = .ok (.istore_n 2, 1) := by decide +kernel
theorem dM_next_42 : decode bM_next 42 = .ok (.iload_n 2, 1) := by decide +kernel
theorem dM_next_43 : decode bM_next 43 = .ok (.aload_n 0, 1) := by decide +kernel
theorem dM_next_44 : decode bM_next 44 = .ok (.getfield 13, 3) := by decide +kernel
theorem dM_next_47 : decode bM_next 47 = .ok (.if_icmp .ge 7, 3) := by decide +kernel
theorem dM_next_50 : decode bM_next 50 = .ok (.iload_n 2, 1) := by decide +kernel
theorem dM_next_51 : decode bM_next 51 = .ok (.goto 4, 3) := by decide +kernel
theorem dM_next_54 : decode bM_next 54 = .ok (.iconst 0, 1) := by decide +kernel
theorem dM_next_55 : decode bM_next 55 = .ok (.ireturn, 1) := by decide +kernel
theorem dM_number_0 : decode bM_number 0 = .ok (.aload_n 0, 1) := by decide +kernel
theorem dM_number_1 : decode bM_number 1 = .ok (.aload_n 0, 1) := by decide +kernel
theorem dM_number_2 : decode bM_number 2 = .ok (.iload_n 1, 1) := by decide +kernel
theorem dM_number_3 : decode bM_number 3 = .ok (.invokevirtual 55, 3) := by decide +kernel
theorem dM_number_6 : decode bM_number 6 = .ok (.invokevirtual 42, 3) := by decide +kernel
theorem dM_number_9 : decode bM_number 9 = .ok (.ifCond .ne 5, 3) := by decide +kernel
theorem dM_number_12 : decode bM_number 12 = .ok (.iconst 0, 1) := by decide +kernel
theorem dM_number_13 : decode bM_number 13 = .ok (.ireturn, 1) := by decide +kernel
theorem dM_number_14 : decode bM_number 14 = .ok (.aload_n 0, 1) := by decide +kernel
theorem dM_number_15 : decode bM_number 15 = .ok (.getfield 23, 3) := by decide +kernel
theorem dM_number_18 : decode bM_number 18 = .ok (.iload_n 1, 1) := by decide +kernel
theorem dM_number_19 : decode bM_number 19 = .ok (.iaload, 1) := by decide +kernel
theorem dM_number_20 : decode bM_number 20 = .ok (.ifCond .ne 23, 3) := by decide +kernel
theorem dM_number_23 : decode bM_number 23 = .ok (.aload_n 0, 1) := by decide +kernel
theorem dM_number_24 : decode bM_number 24 = .ok (.dup, 1) := by decide +kernel
theorem dM_number_25 : decode bM_number 25 = .ok (.getfield 52, 3) := by decide +kernel
theorem dM_number_28 : decode bM_number 28 = .ok (.iconst 1, 1) := by decide +kernel
theorem dM_number_29 : decode bM_number 29 = .ok (.iadd, 1) := by decide +kernel
theorem dM_number_30 : decode bM_number 30 = .ok (.putfield 52, 3) := by decide +kernel
theorem dM_number_33 : decode bM_number 33 = .ok (.aload_n 0, 1) := by decide +kernel
theorem dM_number_34 : decode bM_number 34 = .ok (.getfield 23, 3) := by decide +kernel
theorem dM_number_37 : decode bM_number 37 = .ok (.iload_n 1, 1) := by decide +kernel
theorem dM_number_38 : decode bM_number 38 = .ok (.aload_n 0, 1) := by decide +kernel
theorem dM_number_39 : decode bM_number 39 = .ok (.getfield 52, 3) := by decide +kernel
theorem dM_number_42 : decode bM_number 42 = .ok (.iastore, 1) := by decide +kernel
theorem dM_number_43 : decode bM_number 43 = .ok (.aload_n 0, 1) := by decide +kernel
theorem dM_number_44 : decode bM_number 44 = .ok (.getfield 23, 3) := by decide +kernel
theorem dM_number_47 : decode bM_number 47 = .ok (.iload_n 1, 1) := by decide +kernel
theorem dM_number_48 : decode bM_number 48 = .ok (.iaload, 1) := by decide +kernel
theorem dM_number_49 : decode bM_number 49 = .ok (.iconst 1, 1) := by decide +kernel
theorem dM_number_50 : decode bM_number 50 = .ok (.isub, 1) := by decide +kernel
theorem dM_number_51 : decode bM_number 51 = .ok (.ireturn, 1) := by decide +kernel
theorem dM_objects_0 : decode bM_objects 0 = .ok (.iconst 0, 1) := by decide +kernel
theorem dM_objects_1 : decode bM_objects 1 = .ok (.istore_n 1, 1) := by decide +kernel
theorem dM_objects_2 : decode bM_objects 2 = .ok (.iconst 1, 1) := by decide +kernel
theorem dM_objects_3 : decode bM_objects 3 = .ok (.istore_n 2, 1) := by decide +kernel
theorem dM_objects_4 : decode bM_objects 4 = .ok (.iload_n 2, 1) := by decide +kernel
theorem dM_objects_5 : decode bM_objects 5 = .ok (.aload_n 0, 1) := by decide +kernel
theorem dM_objects_6 : decode bM_objects 6 = .ok (.getfield 13, 3) := by decide +kernel
theorem dM_objects_9 : decode bM_objects 9 = .ok (.if_icmp .ge 17, 3) := by decide +kernel
theorem dM_objects_12 : decode bM_objects 12 = .ok (.iinc 1 1, 3) := by decide +kernel
theorem dM_objects_15 : decode bM_objects 15 = .ok (.iload_n 2, 1) := by decide +kernel
theorem dM_objects_16 : decode bM_objects 16 = .ok (.aload_n 0, 1) := by decide +kernel
theorem dM_objects_17 : decode bM_objects 17 = .ok (.iload_n 2, 1) := by decide +kernel
theorem dM_objects_18 : decode bM_objects 18 = .ok (.invokevirtual 69, 3) := by decide +kernel
theorem dM_objects_21 : decode bM_objects 21 = .ok (.iadd, 1) := by decide +kernel
theorem dM_objects_22 : decode bM_objects 22 = .ok (.istore_n 2, 1) := by decide +kernel
theorem dM_objects_23 : decode bM_objects 23 = .ok (.goto (-19), 3) := by decide +kernel
theorem dM_objects_26 : decode bM_objects 26 = .ok (.iload_n 1, 1) := by decide +kernel
theorem dM_objects_27 : decode bM_objects 27 = .ok (.ireturn, 1) := by decide +kernel
theorem dM_put_0 : decode bM_put 0 = .ok (.aload_n 0, 1) := by decide +kernel
theorem dM_put_1 : decode bM_put 1 = .ok (.aload_n 0, 1) := by decide +kernel
theorem dM_put_2 : decode bM_put 2 = .ok (.iload_n 1, 1) := by decide +kernel
theorem dM_put_3 : decode bM_put 3 = .ok (.iload_n 2, 1) := by decide +kernel
theorem dM_put_4 : decode bM_put 4 = .ok (.invokevirtual 63, 3) := by decide +kernel
theorem dM_put_7 : decode bM_put 7 = .ok (.invokevirtual 42, 3) := by decide +kernel
theorem dM_put_10 : decode bM_put 10 = .ok (.ifCond .ne 5, 3) := by decide +kernel
theorem dM_put_13 : decode bM_put 13 = .ok (.iconst 0, 1) := by decide +kernel
theorem dM_put_14 : decode bM_put 14 = .ok (.ireturn, 1) := by decide +kernel
theorem dM_put_15 : decode bM_put 15 = .ok (.iload_n 1, 1) := by decide +kernel
theorem dM_put_16 : decode bM_put 16 = .ok (.iconst 2, 1) := by decide +kernel
theorem dM_put_17 : decode bM_put 17 = .ok (.iadd, 1) := by decide +kernel
theorem dM_put_18 : decode bM_put 18 = .ok (.aload_n 0, 1) := by decide +kernel
theorem dM_put_19 : decode bM_put 19 = .ok (.getfield 16, 3) := by decide +kernel
theorem dM_put_22 : decode bM_put 22 = .ok (.iload_n 1, 1) := by decide +kernel
theorem dM_put_23 : decode bM_put 23 = .ok (.iaload, 1) := by decide +kernel
theorem dM_put_24 : decode bM_put 24 = .ok (.iadd, 1) := by decide +kernel
theorem dM_put_25 : decode bM_put 25 = .ok (.iload_n 2, 1) := by decide +kernel
theorem dM_put_26 : decode bM_put 26 = .ok (.iadd, 1) := by decide +kernel
theorem dM_put_27 : decode bM_put 27 = .ok (.istore 4, 2) := by decide +kernel
theorem dM_put_29 : decode bM_put 29 = .ok (.aload_n 0, 1) := by decide +kernel
theorem dM_put_30 : decode bM_put 30 = .ok (.getfield 33, 3) := by decide +kernel
theorem dM_put_33 : decode bM_put 33 = .ok (.iload 4, 2) := by decide +kernel
theorem dM_put_35 : decode bM_put 35 = .ok (.iaload, 1) := by decide +kernel
theorem dM_put_36 : decode bM_put 36 = .ok (.istore 5, 2) := by decide +kernel
theorem dM_put_38 : decode bM_put 38 = .ok (.aload_n 0, 1) := by decide +kernel
theorem dM_put_39 : decode bM_put 39 = .ok (.getfield 33, 3) := by decide +kernel
theorem dM_put_42 : decode bM_put 42 = .ok (.iload 4, 2) := by decide +kernel
theorem dM_put_44 : decode bM_put 44 = .ok (.iload_n 3, 1) := by decide +kernel
theorem dM_put_45 : decode bM_put 45 = .ok (.iastore, 1) := by decide +kernel
theorem dM_put_46 : decode bM_put 46 = .ok (.iload 5, 2) := by decide +kernel
theorem dM_put_48 : decode bM_put 48 = .ok (.ireturn, 1) := by decide +kernel
theorem dM_reach_0 : decode bM_reach 0 = .ok (.iconst 0, 1) := by decide +kernel
theorem dM_reach_1 : decode bM_reach 1 = .ok (.istore_n 1, 1) := by decide +kernel
theorem dM_reach_2 : decode bM_reach 2 = .ok (.iload_n 1, 1) := by decide +kernel
theorem dM_reach_3 : decode bM_reach 3 = .ok (.aload_n 0, 1) := by decide +kernel
theorem dM_reach_4 : decode bM_reach 4 = .ok (.getfield 13, 3) := by decide +kernel
theorem dM_reach_7 : decode bM_reach 7 = .ok (.if_icmp .gt 16, 3) := by decide +kernel
theorem dM_reach_10 : decode bM_reach 10 = .ok (.aload_n 0, 1) := by decide +kernel
theorem dM_reach_11 : decode bM_reach 11 = .ok (.getfield 29, 3) := by decide +kernel
theorem dM_reach_14 : decode bM_reach 14 = .ok (.iload_n 1, 1) := by decide +kernel
theorem dM_reach_15 : decode bM_reach 15 = .ok (.iconst 0, 1) := by decide +kernel
theorem dM_reach_16 : decode bM_reach 16 = .ok (.bastore, 1) := by decide +kernel
theorem dM_reach_17 : decode bM_reach 17 = .ok (.iinc 1 1, 3) := by decide +kernel
theorem dM_reach_20 : decode bM_reach 20 = .ok (.goto (-18), 3) := by decide +kernel
theorem dM_reach_23 : decode bM_reach 23 = .ok (.iconst 0, 1) := by decide +kernel
theorem dM_reach_24 : decode bM_reach 24 = .ok (.istore_n 1, 1) := by decide +kernel
theorem dM_reach_25 : decode bM_reach 25 = .ok (.iload_n 1, 1) := by decide +kernel
theorem dM_reach_26 : decode bM_reach 26 = .ok (.bipush 16, 2) := by decide +kernel
theorem dM_reach_28 : decode bM_reach 28 = .ok (.if_icmp .ge 21, 3) := by decide +kernel
theorem dM_reach_31 : decode bM_reach 31 = .ok (.aload_n 0, 1) := by decide +kernel
theorem dM_reach_32 : decode bM_reach 32 = .ok (.getfield 29, 3) := by decide +kernel
theorem dM_reach_35 : decode bM_reach 35 = .ok (.aload_n 0, 1) := by decide +kernel
theorem dM_reach_36 : decode bM_reach 36 = .ok (.getfield 36, 3) := by decide +kernel
theorem dM_reach_39 : decode bM_reach 39 = .ok (.iload_n 1, 1) := by decide +kernel
theorem dM_reach_40 : decode bM_reach 40 = .ok (.iaload, 1) := by decide +kernel
theorem dM_reach_41 : decode bM_reach 41 = .ok (.iconst 1, 1) := by decide +kernel
theorem dM_reach_42 : decode bM_reach 42 = .ok (.bastore, 1) := by decide +kernel
theorem dM_reach_43 : decode bM_reach 43 = .ok (.iinc 1 1, 3) := by decide +kernel
theorem dM_reach_46 : decode bM_reach 46 = .ok (.goto (-21), 3) := by decide +kernel
theorem dM_reach_49 : decode bM_reach 49 = .ok (.aload_n 0, 1) := by decide +kernel
theorem dM_reach_50 : decode bM_reach 50 = .ok (.getfield 29, 3) := by decide +kernel
theorem dM_reach_53 : decode bM_reach 53 = .ok (.iconst 0, 1) := by decide +kernel
theorem dM_reach_54 : decode bM_reach 54 = .ok (.iconst 0, 1) := by decide +kernel
theorem dM_reach_55 : decode bM_reach 55 = .ok (.bastore, 1) := by decide +kernel
theorem dM_reach_56 : decode bM_reach 56 = .ok (.iconst 1, 1) := by decide +kernel
theorem dM_reach_57 : decode bM_reach 57 = .ok (.istore_n 1, 1) := by decide +kernel
theorem dM_reach_58 : decode bM_reach 58 = .ok (.iconst 0, 1) := by decide +kernel
theorem dM_reach_59 : decode bM_reach 59 = .ok (.istore_n 2, 1) := by decide +kernel
theorem dM_reach_60 : decode bM_reach 60 = .ok (.iload_n 2, 1) := by decide +kernel
theorem dM_reach_61 : decode bM_reach 61 = .ok (.sipush 6000, 3) := by decide +kernel
theorem dM_reach_64 : decode bM_reach 64 = .ok (.if_icmp .ge 105, 3) := by decide +kernel
theorem dM_reach_67 : decode bM_reach 67 = .ok (.iload_n 1, 1) := by decide +kernel
theorem dM_reach_68 : decode bM_reach 68 = .ok (.ifCond .eq 101, 3) := by decide +kernel
theorem dM_reach_71 : decode bM_reach 71 = .ok (.iconst 0, 1) := by decide +kernel
theorem dM_reach_72 : decode bM_reach 72 = .ok (.istore_n 1, 1) := by decide +kernel
theorem dM_reach_73 : decode bM_reach 73 = .ok (.iconst 1, 1) := by decide +kernel
theorem dM_reach_74 : decode bM_reach 74 = .ok (.istore_n 3, 1) := by decide +kernel
theorem dM_reach_75 : decode bM_reach 75 = .ok (.iload_n 3, 1) := by decide +kernel
theorem dM_reach_76 : decode bM_reach 76 = .ok (.aload_n 0, 1) := by decide +kernel
theorem dM_reach_77 : decode bM_reach 77 = .ok (.getfield 13, 3) := by decide +kernel
theorem dM_reach_80 : decode bM_reach 80 = .ok (.if_icmp .ge 83, 3) := by decide +kernel
theorem dM_reach_83 : decode bM_reach 83 = .ok (.iconst 0, 1) := by decide +kernel
theorem dM_reach_84 : decode bM_reach 84 = .ok (.istore 4, 2) := by decide +kernel
theorem dM_reach_86 : decode bM_reach 86 = .ok (.iload 4, 2) := by decide +kernel
theorem dM_reach_88 : decode bM_reach 88 = .ok (.aload_n 0, 1) := by decide +kernel
theorem dM_reach_89 : decode bM_reach 89 = .ok (.getfield 16, 3) := by decide +kernel
theorem dM_reach_92 : decode bM_reach 92 = .ok (.iload_n 3, 1) := by decide +kernel
theorem dM_reach_93 : decode bM_reach 93 = .ok (.iaload, 1) := by decide +kernel
theorem dM_reach_94 : decode bM_reach 94 = .ok (.iconst 1, 1) := by decide +kernel
theorem dM_reach_95 : decode bM_reach 95 = .ok (.isub, 1) := by decide +kernel
theorem dM_reach_96 : decode bM_reach 96 = .ok (.if_icmp .ge 56, 3) := by decide +kernel
theorem dM_reach_99 : decode bM_reach 99 = .ok (.aload_n 0, 1) := by decide +kernel
theorem dM_reach_100 : decode bM_reach 100 = .ok (.getfield 29, 3) := by decide +kernel
theorem dM_reach_103 : decode bM_reach 103 = .ok (.iload_n 3, 1) := by decide +kernel
theorem dM_reach_104 : decode bM_reach 104 = .ok (.baload, 1) := by decide +kernel
theorem dM_reach_105 : decode bM_reach 105 = .ok (.ifCond .eq 47, 3) := by decide +kernel
theorem dM_reach_108 : decode bM_reach 108 = .ok (.aload_n 0, 1) := by decide +kernel
theorem dM_reach_109 : decode bM_reach 109 = .ok (.getfield 33, 3) := by decide +kernel
theorem dM_reach_112 : decode bM_reach 112 = .ok (.iload_n 3, 1) := by decide +kernel
theorem dM_reach_113 : decode bM_reach 113 = .ok (.iconst 3, 1) := by decide +kernel
theorem dM_reach_114 : decode bM_reach 114 = .ok (.iadd, 1) := by decide +kernel
theorem dM_reach_115 : decode bM_reach 115 = .ok (.iload 4, 2) := by decide +kernel
theorem dM_reach_117 : decode bM_reach 117 = .ok (.iadd, 1) := by decide +kernel
theorem dM_reach_118 : decode bM_reach 118 = .ok (.iaload, 1) := by decide +kernel
theorem dM_reach_119 : decode bM_reach 119 = .ok (.istore 5, 2) := by decide +kernel
theorem dM_reach_121 : decode bM_reach 121 = .ok (.iload 5, 2) := by decide +kernel
theorem dM_reach_123 : decode bM_reach 123 = .ok (.ifCond .le 23, 3) := by decide +kernel
theorem dM_reach_126 : decode bM_reach 126 = .ok (.aload_n 0, 1) := by decide +kernel
theorem dM_reach_127 : decode bM_reach 127 = .ok (.getfield 29, 3) := by decide +kernel
theorem dM_reach_130 : decode bM_reach 130 = .ok (.iload 5, 2) := by decide +kernel
theorem dM_reach_132 : decode bM_reach 132 = .ok (.baload, 1) := by decide +kernel
theorem dM_reach_133 : decode bM_reach 133 = .ok (.ifCond .ne 13, 3) := by decide +kernel
theorem dM_reach_136 : decode bM_reach 136 = .ok (.aload_n 0, 1) := by decide +kernel
theorem dM_reach_137 : decode bM_reach 137 = .ok (.getfield 29, 3) := by decide +kernel
theorem dM_reach_140 : decode bM_reach 140 = .ok (.iload 5, 2) := by decide +kernel
theorem dM_reach_142 : decode bM_reach 142 = .ok (.iconst 1, 1) := by decide +kernel
theorem dM_reach_143 : decode bM_reach 143 = .ok (.bastore, 1) := by decide +kernel
theorem dM_reach_144 : decode bM_reach 144 = .ok (.iconst 1, 1) := by decide +kernel
theorem dM_reach_145 : decode bM_reach 145 = .ok (.istore_n 1, 1) := by decide +kernel
theorem dM_reach_146 : decode bM_reach 146 = .ok (.iinc 4 1, 3) := by decide +kernel
theorem dM_reach_149 : decode bM_reach 149 = .ok (.goto (-63), 3) := by decide +kernel
theorem dM_reach_152 : decode bM_reach 152 = .ok (.iload_n 3, 1) := by decide +kernel
theorem dM_reach_153 : decode bM_reach 153 = .ok (.aload_n 0, 1) := by decide +kernel
theorem dM_reach_154 : decode bM_reach 154 = .ok (.iload_n 3, 1) := by decide +kernel
theorem dM_reach_155 : decode bM_reach 155 = .ok (.invokevirtual 69, 3) := by decide +kernel
theorem dM_reach_158 : decode bM_reach 158 = .ok (.iadd, 1) := by decide +kernel
theorem dM_reach_159 : decode bM_reach 159 = .ok (.istore_n 3, 1) := by decide +kernel
theorem dM_reach_160 : decode bM_reach 160 = .ok (.goto (-85), 3) := by decide +kernel
theorem dM_reach_163 : decode bM_reach 163 = .ok (.iinc 2 1, 3) := by decide +kernel
theorem dM_reach_166 : decode bM_reach 166 = .ok (.goto (-106), 3) := by decide +kernel
theorem dM_reach_169 : decode bM_reach 169 = .ok (.iconst 0, 1) := by decide +kernel
theorem dM_reach_170 : decode bM_reach 170 = .ok (.istore_n 2, 1) := by decide +kernel
theorem dM_reach_171 : decode bM_reach 171 = .ok (.iconst 1, 1) := by decide +kernel
theorem dM_reach_172 : decode bM_reach 172 = .ok (.istore_n 3, 1) := by decide +kernel
theorem dM_reach_173 : decode bM_reach 173 = .ok (.iload_n 3, 1) := by decide +kernel
theorem dM_reach_174 : decode bM_reach 174 = .ok (.aload_n 0, 1) := by decide +kernel
theorem dM_reach_175 : decode bM_reach 175 = .ok (.getfield 13, 3) := by decide +kernel
theorem dM_reach_178 : decode bM_reach 178 = .ok (.if_icmp .ge 31, 3) := by decide +kernel
theorem dM_reach_181 : decode bM_reach 181 = .ok (.aload_n 0, 1) := by decide +kernel
theorem dM_reach_182 : decode bM_reach 182 = .ok (.getfield 29, 3) := by decide +kernel
theorem dM_reach_185 : decode bM_reach 185 = .ok (.iload_n 3, 1) := by decide +kernel
theorem dM_reach_186 : decode bM_reach 186 = .ok (.baload, 1) := by decide +kernel
theorem dM_reach_187 : decode bM_reach 187 = .ok (.ifCond .eq 9, 3) := by decide +kernel
theorem dM_reach_190 : decode bM_reach 190 = .ok (.iload_n 2, 1) := by decide +kernel
theorem dM_reach_191 : decode bM_reach 191 = .ok (.iconst 1, 1) := by decide +kernel
theorem dM_reach_192 : decode bM_reach 192 = .ok (.iadd, 1) := by decide +kernel
theorem dM_reach_193 : decode bM_reach 193 = .ok (.goto 4, 3) := by decide +kernel
theorem dM_reach_196 : decode bM_reach 196 = .ok (.iload_n 2, 1) := by decide +kernel
theorem dM_reach_197 : decode bM_reach 197 = .ok (.istore_n 2, 1) := by decide +kernel
theorem dM_reach_198 : decode bM_reach 198 = .ok (.iload_n 3, 1) := by decide +kernel
theorem dM_reach_199 : decode bM_reach 199 = .ok (.aload_n 0, 1) := by decide +kernel
theorem dM_reach_200 : decode bM_reach 200 = .ok (.iload_n 3, 1) := by decide +kernel
theorem dM_reach_201 : decode bM_reach 201 = .ok (.invokevirtual 69, 3) := by decide +kernel
theorem dM_reach_204 : decode bM_reach 204 = .ok (.iadd, 1) := by decide +kernel
theorem dM_reach_205 : decode bM_reach 205 = .ok (.istore_n 3, 1) := by decide +kernel
theorem dM_reach_206 : decode bM_reach 206 = .ok (.goto (-33), 3) := by decide +kernel
theorem dM_reach_209 : decode bM_reach 209 = .ok (.iload_n 2, 1) := by decide +kernel
theorem dM_reach_210 : decode bM_reach 210 = .ok (.ireturn, 1) := by decide +kernel
theorem dM_root_0 : decode bM_root 0 = .ok (.aload_n 0, 1) := by decide +kernel
theorem dM_root_1 : decode bM_root 1 = .ok (.iload_n 1, 1) := by decide +kernel
theorem dM_root_2 : decode bM_root 2 = .ok (.invokestatic 66, 3) := by decide +kernel
theorem dM_root_5 : decode bM_root 5 = .ok (.ifCond .eq 19, 3) := by decide +kernel
theorem dM_root_8 : decode bM_root 8 = .ok (.iload_n 2, 1) := by decide +kernel
theorem dM_root_9 : decode bM_root 9 = .ok (.ifCond .eq 11, 3) := by decide +kernel
theorem dM_root_12 : decode bM_root 12 = .ok (.aload_n 0, 1) := by decide +kernel
theorem dM_root_13 : decode bM_root 13 = .ok (.iload_n 2, 1) := by decide +kernel
theorem dM_root_14 : decode bM_root 14 = .ok (.invokevirtual 55, 3) := by decide +kernel
theorem dM_root_17 : decode bM_root 17 = .ok (.ifCond .eq 7, 3) := by decide +kernel
theorem dM_root_20 : decode bM_root 20 = .ok (.iconst 1, 1) := by decide +kernel
theorem dM_root_21 : decode bM_root 21 = .ok (.goto 4, 3) := by decide +kernel
theorem dM_root_24 : decode bM_root 24 = .ok (.iconst 0, 1) := by decide +kernel
theorem dM_root_25 : decode bM_root 25 = .ok (.invokevirtual 42, 3) := by decide +kernel
theorem dM_root_28 : decode bM_root 28 = .ok (.ifCond .ne 5, 3) := by decide +kernel
theorem dM_root_31 : decode bM_root 31 = .ok (.iconst 0, 1) := by decide +kernel
theorem dM_root_32 : decode bM_root 32 = .ok (.ireturn, 1) := by decide +kernel
theorem dM_root_33 : decode bM_root 33 = .ok (.aload_n 0, 1) := by decide +kernel
theorem dM_root_34 : decode bM_root 34 = .ok (.getfield 36, 3) := by decide +kernel
theorem dM_root_37 : decode bM_root 37 = .ok (.iload_n 1, 1) := by decide +kernel
theorem dM_root_38 : decode bM_root 38 = .ok (.iaload, 1) := by decide +kernel
theorem dM_root_39 : decode bM_root 39 = .ok (.istore_n 3, 1) := by decide +kernel
theorem dM_root_40 : decode bM_root 40 = .ok (.aload_n 0, 1) := by decide +kernel
theorem dM_root_41 : decode bM_root 41 = .ok (.getfield 36, 3) := by decide +kernel
theorem dM_root_44 : decode bM_root 44 = .ok (.iload_n 1, 1) := by decide +kernel
theorem dM_root_45 : decode bM_root 45 = .ok (.iload_n 2, 1) := by decide +kernel
theorem dM_root_46 : decode bM_root 46 = .ok (.iastore, 1) := by decide +kernel
theorem dM_root_47 : decode bM_root 47 = .ok (.iload_n 3, 1) := by decide +kernel
theorem dM_root_48 : decode bM_root 48 = .ok (.ireturn, 1) := by decide +kernel
theorem dM_rooted_0 : decode bM_rooted 0 = .ok (.aload_n 0, 1) := by decide +kernel
theorem dM_rooted_1 : decode bM_rooted 1 = .ok (.iload_n 1, 1) := by decide +kernel
theorem dM_rooted_2 : decode bM_rooted 2 = .ok (.invokestatic 66, 3) := by decide +kernel
theorem dM_rooted_5 : decode bM_rooted 5 = .ok (.invokevirtual 42, 3) := by decide +kernel
theorem dM_rooted_8 : decode bM_rooted 8 = .ok (.ifCond .eq 12, 3) := by decide +kernel
theorem dM_rooted_11 : decode bM_rooted 11 = .ok (.aload_n 0, 1) := by decide +kernel
theorem dM_rooted_12 : decode bM_rooted 12 = .ok (.getfield 36, 3) := by decide +kernel
theorem dM_rooted_15 : decode bM_rooted 15 = .ok (.iload_n 1, 1) := by decide +kernel
theorem dM_rooted_16 : decode bM_rooted 16 = .ok (.iaload, 1) := by decide +kernel
theorem dM_rooted_17 : decode bM_rooted 17 = .ok (.goto 4, 3) := by decide +kernel
theorem dM_rooted_20 : decode bM_rooted 20 = .ok (.iconst 0, 1) := by decide +kernel
theorem dM_rooted_21 : decode bM_rooted 21 = .ok (.ireturn, 1) := by decide +kernel
theorem dM_set_0 : decode bM_set 0 = .ok (.aload_n 0, 1) := by decide +kernel
theorem dM_set_1 : decode bM_set 1 = .ok (.aload_n 0, 1) := by decide +kernel
theorem dM_set_2 : decode bM_set 2 = .ok (.iload_n 1, 1) := by decide +kernel
theorem dM_set_3 : decode bM_set 3 = .ok (.iload_n 2, 1) := by decide +kernel
theorem dM_set_4 : decode bM_set 4 = .ok (.invokevirtual 59, 3) := by decide +kernel
theorem dM_set_7 : decode bM_set 7 = .ok (.ifCond .eq 19, 3) := by decide +kernel
theorem dM_set_10 : decode bM_set 10 = .ok (.iload_n 3, 1) := by decide +kernel
theorem dM_set_11 : decode bM_set 11 = .ok (.ifCond .eq 11, 3) := by decide +kernel
theorem dM_set_14 : decode bM_set 14 = .ok (.aload_n 0, 1) := by decide +kernel
theorem dM_set_15 : decode bM_set 15 = .ok (.iload_n 3, 1) := by decide +kernel
theorem dM_set_16 : decode bM_set 16 = .ok (.invokevirtual 55, 3) := by decide +kernel
theorem dM_set_19 : decode bM_set 19 = .ok (.ifCond .eq 7, 3) := by decide +kernel
theorem dM_set_22 : decode bM_set 22 = .ok (.iconst 1, 1) := by decide +kernel
theorem dM_set_23 : decode bM_set 23 = .ok (.goto 4, 3) := by decide +kernel
theorem dM_set_26 : decode bM_set 26 = .ok (.iconst 0, 1) := by decide +kernel
theorem dM_set_27 : decode bM_set 27 = .ok (.invokevirtual 42, 3) := by decide +kernel
theorem dM_set_30 : decode bM_set 30 = .ok (.ifCond .ne 5, 3) := by decide +kernel
theorem dM_set_33 : decode bM_set 33 = .ok (.iconst 0, 1) := by decide +kernel
theorem dM_set_34 : decode bM_set 34 = .ok (.ireturn, 1) := by decide +kernel
theorem dM_set_35 : decode bM_set 35 = .ok (.aload_n 0, 1) := by decide +kernel
theorem dM_set_36 : decode bM_set 36 = .ok (.getfield 33, 3) := by decide +kernel
theorem dM_set_39 : decode bM_set 39 = .ok (.iload_n 1, 1) := by decide +kernel
theorem dM_set_40 : decode bM_set 40 = .ok (.iconst 3, 1) := by decide +kernel
theorem dM_set_41 : decode bM_set 41 = .ok (.iadd, 1) := by decide +kernel
theorem dM_set_42 : decode bM_set 42 = .ok (.iload_n 2, 1) := by decide +kernel
theorem dM_set_43 : decode bM_set 43 = .ok (.iadd, 1) := by decide +kernel
theorem dM_set_44 : decode bM_set 44 = .ok (.iaload, 1) := by decide +kernel
theorem dM_set_45 : decode bM_set 45 = .ok (.istore 4, 2) := by decide +kernel
theorem dM_set_47 : decode bM_set 47 = .ok (.aload_n 0, 1) := by decide +kernel
theorem dM_set_48 : decode bM_set 48 = .ok (.getfield 33, 3) := by decide +kernel
theorem dM_set_51 : decode bM_set 51 = .ok (.iload_n 1, 1) := by decide +kernel
theorem dM_set_52 : decode bM_set 52 = .ok (.iconst 3, 1) := by decide +kernel
theorem dM_set_53 : decode bM_set 53 = .ok (.iadd, 1) := by decide +kernel
theorem dM_set_54 : decode bM_set 54 = .ok (.iload_n 2, 1) := by decide +kernel
theorem dM_set_55 : decode bM_set 55 = .ok (.iadd, 1) := by decide +kernel
theorem dM_set_56 : decode bM_set 56 = .ok (.iload_n 3, 1) := by decide +kernel
theorem dM_set_57 : decode bM_set 57 = .ok (.iastore, 1) := by decide +kernel
theorem dM_set_58 : decode bM_set 58 = .ok (.iload 4, 2) := by decide +kernel
theorem dM_set_60 : decode bM_set 60 = .ok (.ireturn, 1) := by decide +kernel
theorem dM_size_0 : decode bM_size 0 = .ok (.iconst 3, 1) := by decide +kernel
theorem dM_size_1 : decode bM_size 1 = .ok (.aload_n 0, 1) := by decide +kernel
theorem dM_size_2 : decode bM_size 2 = .ok (.getfield 16, 3) := by decide +kernel
theorem dM_size_5 : decode bM_size 5 = .ok (.iload_n 1, 1) := by decide +kernel
theorem dM_size_6 : decode bM_size 6 = .ok (.iaload, 1) := by decide +kernel
theorem dM_size_7 : decode bM_size 7 = .ok (.iadd, 1) := by decide +kernel
theorem dM_size_8 : decode bM_size 8 = .ok (.iconst 1, 1) := by decide +kernel
theorem dM_size_9 : decode bM_size 9 = .ok (.isub, 1) := by decide +kernel
theorem dM_size_10 : decode bM_size 10 = .ok (.aload_n 0, 1) := by decide +kernel
theorem dM_size_11 : decode bM_size 11 = .ok (.getfield 20, 3) := by decide +kernel
theorem dM_size_14 : decode bM_size 14 = .ok (.iload_n 1, 1) := by decide +kernel
theorem dM_size_15 : decode bM_size 15 = .ok (.iaload, 1) := by decide +kernel
theorem dM_size_16 : decode bM_size 16 = .ok (.iadd, 1) := by decide +kernel
theorem dM_size_17 : decode bM_size 17 = .ok (.ireturn, 1) := by decide +kernel
theorem dM_slide_0 : decode bM_slide 0 = .ok (.aload_n 0, 1) := by decide +kernel
theorem dM_slide_1 : decode bM_slide 1 = .ok (.iconst 0, 1) := by decide +kernel
theorem dM_slide_2 : decode bM_slide 2 = .ok (.putfield 39, 3) := by decide +kernel
theorem dM_slide_5 : decode bM_slide 5 = .ok (.aload_n 0, 1) := by decide +kernel
theorem dM_slide_6 : decode bM_slide 6 = .ok (.invokevirtual 73, 3) := by decide +kernel
theorem dM_slide_9 : decode bM_slide 9 = .ok (.istore_n 1, 1) := by decide +kernel
theorem dM_slide_10 : decode bM_slide 10 = .ok (.aload_n 0, 1) := by decide +kernel
theorem dM_slide_11 : decode bM_slide 11 = .ok (.invokevirtual 77, 3) := by decide +kernel
theorem dM_slide_14 : decode bM_slide 14 = .ok (.istore_n 2, 1) := by decide +kernel
theorem dM_slide_15 : decode bM_slide 15 = .ok (.iconst 1, 1) := by decide +kernel
theorem dM_slide_16 : decode bM_slide 16 = .ok (.istore_n 3, 1) := by decide +kernel
theorem dM_slide_17 : decode bM_slide 17 = .ok (.iconst 1, 1) := by decide +kernel
theorem dM_slide_18 : decode bM_slide 18 = .ok (.istore 4, 2) := by decide +kernel
theorem dM_slide_20 : decode bM_slide 20 = .ok (.iload 4, 2) := by decide +kernel
theorem dM_slide_22 : decode bM_slide 22 = .ok (.aload_n 0, 1) := by decide +kernel
theorem dM_slide_23 : decode bM_slide 23 = .ok (.getfield 13, 3) := by decide +kernel
theorem dM_slide_26 : decode bM_slide 26 = .ok (.if_icmp .ge 48, 3) := by decide +kernel
theorem dM_slide_29 : decode bM_slide 29 = .ok (.aload_n 0, 1) := by decide +kernel
theorem dM_slide_30 : decode bM_slide 30 = .ok (.getfield 26, 3) := by decide +kernel
theorem dM_slide_33 : decode bM_slide 33 = .ok (.iload 4, 2) := by decide +kernel
theorem dM_slide_35 : decode bM_slide 35 = .ok (.iload_n 3, 1) := by decide +kernel
theorem dM_slide_36 : decode bM_slide 36 = .ok (.iastore, 1) := by decide +kernel
theorem dM_slide_37 : decode bM_slide 37 = .ok (.aload_n 0, 1) := by decide +kernel
theorem dM_slide_38 : decode bM_slide 38 = .ok (.getfield 29, 3) := by decide +kernel
theorem dM_slide_41 : decode bM_slide 41 = .ok (.iload 4, 2) := by decide +kernel
theorem dM_slide_43 : decode bM_slide 43 = .ok (.baload, 1) := by decide +kernel
theorem dM_slide_44 : decode bM_slide 44 = .ok (.ifCond .eq 14, 3) := by decide +kernel
theorem dM_slide_47 : decode bM_slide 47 = .ok (.iload_n 3, 1) := by decide +kernel
theorem dM_slide_48 : decode bM_slide 48 = .ok (.aload_n 0, 1) := by decide +kernel
theorem dM_slide_49 : decode bM_slide 49 = .ok (.iload 4, 2) := by decide +kernel
theorem dM_slide_51 : decode bM_slide 51 = .ok (.invokevirtual 69, 3) := by decide +kernel
theorem dM_slide_54 : decode bM_slide 54 = .ok (.iadd, 1) := by decide +kernel
theorem dM_slide_55 : decode bM_slide 55 = .ok (.goto 4, 3) := by decide +kernel
theorem dM_slide_58 : decode bM_slide 58 = .ok (.iload_n 3, 1) := by decide +kernel
theorem dM_slide_59 : decode bM_slide 59 = .ok (.istore_n 3, 1) := by decide +kernel
theorem dM_slide_60 : decode bM_slide 60 = .ok (.iload 4, 2) := by decide +kernel
theorem dM_slide_62 : decode bM_slide 62 = .ok (.aload_n 0, 1) := by decide +kernel
theorem dM_slide_63 : decode bM_slide 63 = .ok (.iload 4, 2) := by decide +kernel
theorem dM_slide_65 : decode bM_slide 65 = .ok (.invokevirtual 69, 3) := by decide +kernel
theorem dM_slide_68 : decode bM_slide 68 = .ok (.iadd, 1) := by decide +kernel
theorem dM_slide_69 : decode bM_slide 69 = .ok (.istore 4, 2) := by decide +kernel
theorem dM_slide_71 : decode bM_slide 71 = .ok (.goto (-51), 3) := by decide +kernel
theorem dM_slide_74 : decode bM_slide 74 = .ok (.aload_n 0, 1) := by decide +kernel
theorem dM_slide_75 : decode bM_slide 75 = .ok (.getfield 26, 3) := by decide +kernel
theorem dM_slide_78 : decode bM_slide 78 = .ok (.iconst 0, 1) := by decide +kernel
theorem dM_slide_79 : decode bM_slide 79 = .ok (.iconst 0, 1) := by decide +kernel
theorem dM_slide_80 : decode bM_slide 80 = .ok (.iastore, 1) := by decide +kernel
theorem dM_slide_81 : decode bM_slide 81 = .ok (.iconst 0, 1) := by decide +kernel
theorem dM_slide_82 : decode bM_slide 82 = .ok (.istore 4, 2) := by decide +kernel
theorem dM_slide_84 : decode bM_slide 84 = .ok (.iload 4, 2) := by decide +kernel
theorem dM_slide_86 : decode bM_slide 86 = .ok (.bipush 16, 2) := by decide +kernel
theorem dM_slide_88 : decode bM_slide 88 = .ok (.if_icmp .ge 28, 3) := by decide +kernel
theorem dM_slide_91 : decode bM_slide 91 = .ok (.aload_n 0, 1) := by decide +kernel
theorem dM_slide_92 : decode bM_slide 92 = .ok (.getfield 36, 3) := by decide +kernel
theorem dM_slide_95 : decode bM_slide 95 = .ok (.iload 4, 2) := by decide +kernel
theorem dM_slide_97 : decode bM_slide 97 = .ok (.aload_n 0, 1) := by decide +kernel
theorem dM_slide_98 : decode bM_slide 98 = .ok (.getfield 26, 3) := by decide +kernel
theorem dM_slide_101 : decode bM_slide 101 = .ok (.aload_n 0, 1) := by decide +kernel
theorem dM_slide_102 : decode bM_slide 102 = .ok (.getfield 36, 3) := by decide +kernel
theorem dM_slide_105 : decode bM_slide 105 = .ok (.iload 4, 2) := by decide +kernel
theorem dM_slide_107 : decode bM_slide 107 = .ok (.iaload, 1) := by decide +kernel
theorem dM_slide_108 : decode bM_slide 108 = .ok (.iaload, 1) := by decide +kernel
theorem dM_slide_109 : decode bM_slide 109 = .ok (.iastore, 1) := by decide +kernel
theorem dM_slide_110 : decode bM_slide 110 = .ok (.iinc 4 1, 3) := by decide +kernel
theorem dM_slide_113 : decode bM_slide 113 = .ok (.goto (-29), 3) := by decide +kernel
theorem dM_slide_116 : decode bM_slide 116 = .ok (.iconst 1, 1) := by decide +kernel
theorem dM_slide_117 : decode bM_slide 117 = .ok (.istore 4, 2) := by decide +kernel
theorem dM_slide_119 : decode bM_slide 119 = .ok (.iload 4, 2) := by decide +kernel
theorem dM_slide_121 : decode bM_slide 121 = .ok (.aload_n 0, 1) := by decide +kernel
theorem dM_slide_122 : decode bM_slide 122 = .ok (.getfield 13, 3) := by decide +kernel
theorem dM_slide_125 : decode bM_slide 125 = .ok (.if_icmp .ge 79, 3) := by decide +kernel
theorem dM_slide_128 : decode bM_slide 128 = .ok (.iconst 0, 1) := by decide +kernel
theorem dM_slide_129 : decode bM_slide 129 = .ok (.istore 5, 2) := by decide +kernel
theorem dM_slide_131 : decode bM_slide 131 = .ok (.iload 5, 2) := by decide +kernel
theorem dM_slide_133 : decode bM_slide 133 = .ok (.aload_n 0, 1) := by decide +kernel
theorem dM_slide_134 : decode bM_slide 134 = .ok (.getfield 16, 3) := by decide +kernel
theorem dM_slide_137 : decode bM_slide 137 = .ok (.iload 4, 2) := by decide +kernel
theorem dM_slide_139 : decode bM_slide 139 = .ok (.iaload, 1) := by decide +kernel
theorem dM_slide_140 : decode bM_slide 140 = .ok (.iconst 1, 1) := by decide +kernel
theorem dM_slide_141 : decode bM_slide 141 = .ok (.isub, 1) := by decide +kernel
theorem dM_slide_142 : decode bM_slide 142 = .ok (.if_icmp .ge 48, 3) := by decide +kernel
theorem dM_slide_145 : decode bM_slide 145 = .ok (.aload_n 0, 1) := by decide +kernel
theorem dM_slide_146 : decode bM_slide 146 = .ok (.getfield 29, 3) := by decide +kernel
theorem dM_slide_149 : decode bM_slide 149 = .ok (.iload 4, 2) := by decide +kernel
theorem dM_slide_151 : decode bM_slide 151 = .ok (.baload, 1) := by decide +kernel
theorem dM_slide_152 : decode bM_slide 152 = .ok (.ifCond .eq 38, 3) := by decide +kernel
theorem dM_slide_155 : decode bM_slide 155 = .ok (.aload_n 0, 1) := by decide +kernel
theorem dM_slide_156 : decode bM_slide 156 = .ok (.getfield 33, 3) := by decide +kernel
theorem dM_slide_159 : decode bM_slide 159 = .ok (.iload 4, 2) := by decide +kernel
theorem dM_slide_161 : decode bM_slide 161 = .ok (.iconst 3, 1) := by decide +kernel
theorem dM_slide_162 : decode bM_slide 162 = .ok (.iadd, 1) := by decide +kernel
theorem dM_slide_163 : decode bM_slide 163 = .ok (.iload 5, 2) := by decide +kernel
theorem dM_slide_165 : decode bM_slide 165 = .ok (.iadd, 1) := by decide +kernel
theorem dM_slide_166 : decode bM_slide 166 = .ok (.aload_n 0, 1) := by decide +kernel
theorem dM_slide_167 : decode bM_slide 167 = .ok (.getfield 26, 3) := by decide +kernel
theorem dM_slide_170 : decode bM_slide 170 = .ok (.aload_n 0, 1) := by decide +kernel
theorem dM_slide_171 : decode bM_slide 171 = .ok (.getfield 33, 3) := by decide +kernel
theorem dM_slide_174 : decode bM_slide 174 = .ok (.iload 4, 2) := by decide +kernel
theorem dM_slide_176 : decode bM_slide 176 = .ok (.iconst 3, 1) := by decide +kernel
theorem dM_slide_177 : decode bM_slide 177 = .ok (.iadd, 1) := by decide +kernel
theorem dM_slide_178 : decode bM_slide 178 = .ok (.iload 5, 2) := by decide +kernel
theorem dM_slide_180 : decode bM_slide 180 = .ok (.iadd, 1) := by decide +kernel
theorem dM_slide_181 : decode bM_slide 181 = .ok (.iaload, 1) := by decide +kernel
theorem dM_slide_182 : decode bM_slide 182 = .ok (.iaload, 1) := by decide +kernel
theorem dM_slide_183 : decode bM_slide 183 = .ok (.iastore, 1) := by decide +kernel
theorem dM_slide_184 : decode bM_slide 184 = .ok (.iinc 5 1, 3) := by decide +kernel
theorem dM_slide_187 : decode bM_slide 187 = .ok (.goto (-56), 3) := by decide +kernel
theorem dM_slide_190 : decode bM_slide 190 = .ok (.iload 4, 2) := by decide +kernel
theorem dM_slide_192 : decode bM_slide 192 = .ok (.aload_n 0, 1) := by decide +kernel
theorem dM_slide_193 : decode bM_slide 193 = .ok (.iload 4, 2) := by decide +kernel
theorem dM_slide_195 : decode bM_slide 195 = .ok (.invokevirtual 69, 3) := by decide +kernel
theorem dM_slide_198 : decode bM_slide 198 = .ok (.iadd, 1) := by decide +kernel
theorem dM_slide_199 : decode bM_slide 199 = .ok (.istore 4, 2) := by decide +kernel
theorem dM_slide_201 : decode bM_slide 201 = .ok (.goto (-82), 3) := by decide +kernel
theorem dM_slide_204 : decode bM_slide 204 = .ok (.iconst 1, 1) := by decide +kernel
theorem dM_slide_205 : decode bM_slide 205 = .ok (.istore 4, 2) := by decide +kernel
theorem dM_slide_207 : decode bM_slide 207 = .ok (.iload 4, 2) := by decide +kernel
theorem dM_slide_209 : decode bM_slide 209 = .ok (.aload_n 0, 1) := by decide +kernel
theorem dM_slide_210 : decode bM_slide 210 = .ok (.getfield 13, 3) := by decide +kernel
theorem dM_slide_213 : decode bM_slide 213 = .ok (.if_icmp .ge 66, 3) := by decide +kernel
theorem dM_slide_216 : decode bM_slide 216 = .ok (.aload_n 0, 1) := by decide +kernel
theorem dM_slide_217 : decode bM_slide 217 = .ok (.iload 4, 2) := by decide +kernel
theorem dM_slide_219 : decode bM_slide 219 = .ok (.invokevirtual 69, 3) := by decide +kernel
theorem dM_slide_222 : decode bM_slide 222 = .ok (.istore 5, 2) := by decide +kernel
theorem dM_slide_224 : decode bM_slide 224 = .ok (.aload_n 0, 1) := by decide +kernel
theorem dM_slide_225 : decode bM_slide 225 = .ok (.getfield 29, 3) := by decide +kernel
theorem dM_slide_228 : decode bM_slide 228 = .ok (.iload 4, 2) := by decide +kernel
theorem dM_slide_230 : decode bM_slide 230 = .ok (.baload, 1) := by decide +kernel
theorem dM_slide_231 : decode bM_slide 231 = .ok (.ifCond .eq 14, 3) := by decide +kernel
theorem dM_slide_234 : decode bM_slide 234 = .ok (.aload_n 0, 1) := by decide +kernel
theorem dM_slide_235 : decode bM_slide 235 = .ok (.iload 4, 2) := by decide +kernel
theorem dM_slide_237 : decode bM_slide 237 = .ok (.iload 5, 2) := by decide +kernel
theorem dM_slide_239 : decode bM_slide 239 = .ok (.invokevirtual 80, 3) := by decide +kernel
theorem dM_slide_242 : decode bM_slide 242 = .ok (.goto 27, 3) := by decide +kernel
theorem dM_slide_245 : decode bM_slide 245 = .ok (.aload_n 0, 1) := by decide +kernel
theorem dM_slide_246 : decode bM_slide 246 = .ok (.getfield 16, 3) := by decide +kernel
theorem dM_slide_249 : decode bM_slide 249 = .ok (.iload 4, 2) := by decide +kernel
theorem dM_slide_251 : decode bM_slide 251 = .ok (.iconst 0, 1) := by decide +kernel
theorem dM_slide_252 : decode bM_slide 252 = .ok (.iastore, 1) := by decide +kernel
theorem dM_slide_253 : decode bM_slide 253 = .ok (.aload_n 0, 1) := by decide +kernel
theorem dM_slide_254 : decode bM_slide 254 = .ok (.getfield 20, 3) := by decide +kernel
theorem dM_slide_257 : decode bM_slide 257 = .ok (.iload 4, 2) := by decide +kernel
theorem dM_slide_259 : decode bM_slide 259 = .ok (.iconst 0, 1) := by decide +kernel
theorem dM_slide_260 : decode bM_slide 260 = .ok (.iastore, 1) := by decide +kernel
theorem dM_slide_261 : decode bM_slide 261 = .ok (.aload_n 0, 1) := by decide +kernel
theorem dM_slide_262 : decode bM_slide 262 = .ok (.getfield 23, 3) := by decide +kernel
theorem dM_slide_265 : decode bM_slide 265 = .ok (.iload 4, 2) := by decide +kernel
theorem dM_slide_267 : decode bM_slide 267 = .ok (.iconst 0, 1) := by decide +kernel
theorem dM_slide_268 : decode bM_slide 268 = .ok (.iastore, 1) := by decide +kernel
theorem dM_slide_269 : decode bM_slide 269 = .ok (.iload 4, 2) := by decide +kernel
theorem dM_slide_271 : decode bM_slide 271 = .ok (.iload 5, 2) := by decide +kernel
theorem dM_slide_273 : decode bM_slide 273 = .ok (.iadd, 1) := by decide +kernel
theorem dM_slide_274 : decode bM_slide 274 = .ok (.istore 4, 2) := by decide +kernel
theorem dM_slide_276 : decode bM_slide 276 = .ok (.goto (-69), 3) := by decide +kernel
theorem dM_slide_279 : decode bM_slide 279 = .ok (.aload_n 0, 1) := by decide +kernel
theorem dM_slide_280 : decode bM_slide 280 = .ok (.iload_n 3, 1) := by decide +kernel
theorem dM_slide_281 : decode bM_slide 281 = .ok (.putfield 13, 3) := by decide +kernel
theorem dM_slide_284 : decode bM_slide 284 = .ok (.aload_n 0, 1) := by decide +kernel
theorem dM_slide_285 : decode bM_slide 285 = .ok (.dup, 1) := by decide +kernel
theorem dM_slide_286 : decode bM_slide 286 = .ok (.getfield 46, 3) := by decide +kernel
theorem dM_slide_289 : decode bM_slide 289 = .ok (.iconst 1, 1) := by decide +kernel
theorem dM_slide_290 : decode bM_slide 290 = .ok (.iadd, 1) := by decide +kernel
theorem dM_slide_291 : decode bM_slide 291 = .ok (.putfield 46, 3) := by decide +kernel
theorem dM_slide_294 : decode bM_slide 294 = .ok (.aload_n 0, 1) := by decide +kernel
theorem dM_slide_295 : decode bM_slide 295 = .ok (.aload_n 0, 1) := by decide +kernel
theorem dM_slide_296 : decode bM_slide 296 = .ok (.getfield 49, 3) := by decide +kernel
theorem dM_slide_299 : decode bM_slide 299 = .ok (.iload_n 2, 1) := by decide +kernel
theorem dM_slide_300 : decode bM_slide 300 = .ok (.iadd, 1) := by decide +kernel
theorem dM_slide_301 : decode bM_slide 301 = .ok (.iload_n 1, 1) := by decide +kernel
theorem dM_slide_302 : decode bM_slide 302 = .ok (.isub, 1) := by decide +kernel
theorem dM_slide_303 : decode bM_slide 303 = .ok (.putfield 49, 3) := by decide +kernel
theorem dM_slide_306 : decode bM_slide 306 = .ok (.aload_n 0, 1) := by decide +kernel
theorem dM_slide_307 : decode bM_slide 307 = .ok (.getfield 13, 3) := by decide +kernel
theorem dM_slide_310 : decode bM_slide 310 = .ok (.iconst 1, 1) := by decide +kernel
theorem dM_slide_311 : decode bM_slide 311 = .ok (.isub, 1) := by decide +kernel
theorem dM_slide_312 : decode bM_slide 312 = .ok (.ireturn, 1) := by decide +kernel
theorem dM_space_0 : decode bM_space 0 = .ok (.aload_n 0, 1) := by decide +kernel
theorem dM_space_1 : decode bM_space 1 = .ok (.iload_n 1, 1) := by decide +kernel
theorem dM_space_2 : decode bM_space 2 = .ok (.bipush 16, 2) := by decide +kernel
theorem dM_space_4 : decode bM_space 4 = .ok (.if_icmp .lt 14, 3) := by decide +kernel
theorem dM_space_7 : decode bM_space 7 = .ok (.iload_n 1, 1) := by decide +kernel
theorem dM_space_8 : decode bM_space 8 = .ok (.sipush 16384, 3) := by decide +kernel
theorem dM_space_11 : decode bM_space 11 = .ok (.if_icmp .gt 7, 3) := by decide +kernel
theorem dM_space_14 : decode bM_space 14 = .ok (.iconst 1, 1) := by decide +kernel
theorem dM_space_15 : decode bM_space 15 = .ok (.goto 4, 3) := by decide +kernel
theorem dM_space_18 : decode bM_space 18 = .ok (.iconst 0, 1) := by decide +kernel
theorem dM_space_19 : decode bM_space 19 = .ok (.invokevirtual 42, 3) := by decide +kernel
theorem dM_space_22 : decode bM_space 22 = .ok (.ifCond .ne 5, 3) := by decide +kernel
theorem dM_space_25 : decode bM_space 25 = .ok (.iconst 0, 1) := by decide +kernel
theorem dM_space_26 : decode bM_space 26 = .ok (.ireturn, 1) := by decide +kernel
theorem dM_space_27 : decode bM_space 27 = .ok (.aload_n 0, 1) := by decide +kernel
theorem dM_space_28 : decode bM_space 28 = .ok (.getfield 7, 3) := by decide +kernel
theorem dM_space_31 : decode bM_space 31 = .ok (.istore_n 2, 1) := by decide +kernel
theorem dM_space_32 : decode bM_space 32 = .ok (.aload_n 0, 1) := by decide +kernel
theorem dM_space_33 : decode bM_space 33 = .ok (.iload_n 1, 1) := by decide +kernel
theorem dM_space_34 : decode bM_space 34 = .ok (.putfield 7, 3) := by decide +kernel
theorem dM_space_37 : decode bM_space 37 = .ok (.aload_n 0, 1) := by decide +kernel
theorem dM_space_38 : decode bM_space 38 = .ok (.iconst 1, 1) := by decide +kernel
theorem dM_space_39 : decode bM_space 39 = .ok (.putfield 13, 3) := by decide +kernel
theorem dM_space_42 : decode bM_space 42 = .ok (.iconst 0, 1) := by decide +kernel
theorem dM_space_43 : decode bM_space 43 = .ok (.istore_n 3, 1) := by decide +kernel
theorem dM_space_44 : decode bM_space 44 = .ok (.iload_n 3, 1) := by decide +kernel
theorem dM_space_45 : decode bM_space 45 = .ok (.sipush 16386, 3) := by decide +kernel
theorem dM_space_48 : decode bM_space 48 = .ok (.if_icmp .ge 37, 3) := by decide +kernel
theorem dM_space_51 : decode bM_space 51 = .ok (.aload_n 0, 1) := by decide +kernel
theorem dM_space_52 : decode bM_space 52 = .ok (.getfield 16, 3) := by decide +kernel
theorem dM_space_55 : decode bM_space 55 = .ok (.iload_n 3, 1) := by decide +kernel
theorem dM_space_56 : decode bM_space 56 = .ok (.iconst 0, 1) := by decide +kernel
theorem dM_space_57 : decode bM_space 57 = .ok (.iastore, 1) := by decide +kernel
theorem dM_space_58 : decode bM_space 58 = .ok (.aload_n 0, 1) := by decide +kernel
theorem dM_space_59 : decode bM_space 59 = .ok (.getfield 20, 3) := by decide +kernel
theorem dM_space_62 : decode bM_space 62 = .ok (.iload_n 3, 1) := by decide +kernel
theorem dM_space_63 : decode bM_space 63 = .ok (.iconst 0, 1) := by decide +kernel
theorem dM_space_64 : decode bM_space 64 = .ok (.iastore, 1) := by decide +kernel
theorem dM_space_65 : decode bM_space 65 = .ok (.aload_n 0, 1) := by decide +kernel
theorem dM_space_66 : decode bM_space 66 = .ok (.getfield 23, 3) := by decide +kernel
theorem dM_space_69 : decode bM_space 69 = .ok (.iload_n 3, 1) := by decide +kernel
theorem dM_space_70 : decode bM_space 70 = .ok (.iconst 0, 1) := by decide +kernel
theorem dM_space_71 : decode bM_space 71 = .ok (.iastore, 1) := by decide +kernel
theorem dM_space_72 : decode bM_space 72 = .ok (.aload_n 0, 1) := by decide +kernel
theorem dM_space_73 : decode bM_space 73 = .ok (.getfield 33, 3) := by decide +kernel
theorem dM_space_76 : decode bM_space 76 = .ok (.iload_n 3, 1) := by decide +kernel
theorem dM_space_77 : decode bM_space 77 = .ok (.iconst 0, 1) := by decide +kernel
theorem dM_space_78 : decode bM_space 78 = .ok (.iastore, 1) := by decide +kernel
theorem dM_space_79 : decode bM_space 79 = .ok (.iinc 3 1, 3) := by decide +kernel
theorem dM_space_82 : decode bM_space 82 = .ok (.goto (-38), 3) := by decide +kernel
theorem dM_space_85 : decode bM_space 85 = .ok (.iconst 0, 1) := by decide +kernel
theorem dM_space_86 : decode bM_space 86 = .ok (.istore_n 3, 1) := by decide +kernel
theorem dM_space_87 : decode bM_space 87 = .ok (.iload_n 3, 1) := by decide +kernel
theorem dM_space_88 : decode bM_space 88 = .ok (.bipush 16, 2) := by decide +kernel
theorem dM_space_90 : decode bM_space 90 = .ok (.if_icmp .ge 16, 3) := by decide +kernel
theorem dM_space_93 : decode bM_space 93 = .ok (.aload_n 0, 1) := by decide +kernel
theorem dM_space_94 : decode bM_space 94 = .ok (.getfield 36, 3) := by decide +kernel
theorem dM_space_97 : decode bM_space 97 = .ok (.iload_n 3, 1) := by decide +kernel
theorem dM_space_98 : decode bM_space 98 = .ok (.iconst 0, 1) := by decide +kernel
theorem dM_space_99 : decode bM_space 99 = .ok (.iastore, 1) := by decide +kernel
theorem dM_space_100 : decode bM_space 100 = .ok (.iinc 3 1, 3) := by decide +kernel
theorem dM_space_103 : decode bM_space 103 = .ok (.goto (-16), 3) := by decide +kernel
theorem dM_space_106 : decode bM_space 106 = .ok (.aload_n 0, 1) := by decide +kernel
theorem dM_space_107 : decode bM_space 107 = .ok (.iconst 0, 1) := by decide +kernel
theorem dM_space_108 : decode bM_space 108 = .ok (.putfield 46, 3) := by decide +kernel
theorem dM_space_111 : decode bM_space 111 = .ok (.aload_n 0, 1) := by decide +kernel
theorem dM_space_112 : decode bM_space 112 = .ok (.iconst 0, 1) := by decide +kernel
theorem dM_space_113 : decode bM_space 113 = .ok (.putfield 49, 3) := by decide +kernel
theorem dM_space_116 : decode bM_space 116 = .ok (.aload_n 0, 1) := by decide +kernel
theorem dM_space_117 : decode bM_space 117 = .ok (.iconst 0, 1) := by decide +kernel
theorem dM_space_118 : decode bM_space 118 = .ok (.putfield 52, 3) := by decide +kernel
theorem dM_space_121 : decode bM_space 121 = .ok (.iload_n 2, 1) := by decide +kernel
theorem dM_space_122 : decode bM_space 122 = .ok (.ireturn, 1) := by decide +kernel
theorem dM_thrown_0 : decode bM_thrown 0 = .ok (.aload_n 0, 1) := by decide +kernel
theorem dM_thrown_1 : decode bM_thrown 1 = .ok (.getfield 39, 3) := by decide +kernel
theorem dM_thrown_4 : decode bM_thrown 4 = .ok (.ireturn, 1) := by decide +kernel
theorem dM_word_0 : decode bM_word 0 = .ok (.aload_n 0, 1) := by decide +kernel
theorem dM_word_1 : decode bM_word 1 = .ok (.aload_n 0, 1) := by decide +kernel
theorem dM_word_2 : decode bM_word 2 = .ok (.iload_n 1, 1) := by decide +kernel
theorem dM_word_3 : decode bM_word 3 = .ok (.iload_n 2, 1) := by decide +kernel
theorem dM_word_4 : decode bM_word 4 = .ok (.invokevirtual 63, 3) := by decide +kernel
theorem dM_word_7 : decode bM_word 7 = .ok (.invokevirtual 42, 3) := by decide +kernel
theorem dM_word_10 : decode bM_word 10 = .ok (.ifCond .eq 23, 3) := by decide +kernel
theorem dM_word_13 : decode bM_word 13 = .ok (.aload_n 0, 1) := by decide +kernel
theorem dM_word_14 : decode bM_word 14 = .ok (.getfield 33, 3) := by decide +kernel
theorem dM_word_17 : decode bM_word 17 = .ok (.iload_n 1, 1) := by decide +kernel
theorem dM_word_18 : decode bM_word 18 = .ok (.iconst 2, 1) := by decide +kernel
theorem dM_word_19 : decode bM_word 19 = .ok (.iadd, 1) := by decide +kernel
theorem dM_word_20 : decode bM_word 20 = .ok (.aload_n 0, 1) := by decide +kernel
theorem dM_word_21 : decode bM_word 21 = .ok (.getfield 16, 3) := by decide +kernel
theorem dM_word_24 : decode bM_word 24 = .ok (.iload_n 1, 1) := by decide +kernel
theorem dM_word_25 : decode bM_word 25 = .ok (.iaload, 1) := by decide +kernel
theorem dM_word_26 : decode bM_word 26 = .ok (.iadd, 1) := by decide +kernel
theorem dM_word_27 : decode bM_word 27 = .ok (.iload_n 2, 1) := by decide +kernel
theorem dM_word_28 : decode bM_word 28 = .ok (.iadd, 1) := by decide +kernel
theorem dM_word_29 : decode bM_word 29 = .ok (.iaload, 1) := by decide +kernel
theorem dM_word_30 : decode bM_word 30 = .ok (.goto 4, 3) := by decide +kernel
theorem dM_word_33 : decode bM_word 33 = .ok (.iconst 0, 1) := by decide +kernel
theorem dM_word_34 : decode bM_word 34 = .ok (.ireturn, 1) := by decide +kernel
end
section
/-! decode rows (written by wip/gen/names.py) -/
theorem dL_count_0 : decode bL_count 0 = .ok (.aload_n 2, 1) := by decide +kernel
theorem dL_count_1 : decode bL_count 1 = .ok (.iconst 0, 1) := by decide +kernel
theorem dL_count_2 : decode bL_count 2 = .ok (.aload_n 0, 1) := by decide +kernel
theorem dL_count_3 : decode bL_count 3 = .ok (.iload_n 1, 1) := by decide +kernel
theorem dL_count_4 : decode bL_count 4 = .ok (.invokevirtual 46, 3) := by decide +kernel
theorem dL_count_7 : decode bL_count 7 = .ok (.i2l, 1) := by decide +kernel
theorem dL_count_8 : decode bL_count 8 = .ok (.lastore, 1) := by decide +kernel
theorem dL_count_9 : decode bL_count 9 = .ok (.goto 6, 3) := by decide +kernel
theorem dL_count_12 : decode bL_count 12 = .ok (.astore_n 3, 1) := by decide +kernel
theorem dL_count_13 : decode bL_count 13 = .ok (.iconst 1, 1) := by decide +kernel
theorem dL_count_14 : decode bL_count 14 = .ok (.ireturn, 1) := by decide +kernel
theorem dL_count_15 : decode bL_count 15 = .ok (.iconst 0, 1) := by decide +kernel
theorem dL_count_16 : decode bL_count 16 = .ok (.ireturn, 1) := by decide +kernel
theorem dL_get_0 : decode bL_get 0 = .ok (.aload_n 3, 1) := by decide +kernel
theorem dL_get_1 : decode bL_get 1 = .ok (.iconst 0, 1) := by decide +kernel
theorem dL_get_2 : decode bL_get 2 = .ok (.aload_n 0, 1) := by decide +kernel
theorem dL_get_3 : decode bL_get 3 = .ok (.iload_n 1, 1) := by decide +kernel
theorem dL_get_4 : decode bL_get 4 = .ok (.iload_n 2, 1) := by decide +kernel
theorem dL_get_5 : decode bL_get 5 = .ok (.invokevirtual 25, 3) := by decide +kernel
theorem dL_get_8 : decode bL_get 8 = .ok (.i2l, 1) := by decide +kernel
theorem dL_get_9 : decode bL_get 9 = .ok (.lastore, 1) := by decide +kernel
theorem dL_get_10 : decode bL_get 10 = .ok (.goto 7, 3) := by decide +kernel
theorem dL_get_13 : decode bL_get 13 = .ok (.astore 4, 2) := by decide +kernel
theorem dL_get_15 : decode bL_get 15 = .ok (.iconst 1, 1) := by decide +kernel
theorem dL_get_16 : decode bL_get 16 = .ok (.ireturn, 1) := by decide +kernel
theorem dL_get_17 : decode bL_get 17 = .ok (.iconst 0, 1) := by decide +kernel
theorem dL_get_18 : decode bL_get 18 = .ok (.ireturn, 1) := by decide +kernel
theorem dL_law_0 : decode bL_law 0 = .ok (.new 8, 3) := by decide +kernel
theorem dL_law_3 : decode bL_law 3 = .ok (.dup, 1) := by decide +kernel
theorem dL_law_4 : decode bL_law 4 = .ok (.invokespecial 49, 3) := by decide +kernel
theorem dL_law_7 : decode bL_law 7 = .ok (.astore_n 1, 1) := by decide +kernel
theorem dL_law_8 : decode bL_law 8 = .ok (.new 50, 3) := by decide +kernel
theorem dL_law_11 : decode bL_law 11 = .ok (.dup, 1) := by decide +kernel
theorem dL_law_12 : decode bL_law 12 = .ok (.invokespecial 52, 3) := by decide +kernel
theorem dL_law_15 : decode bL_law 15 = .ok (.astore_n 2, 1) := by decide +kernel
theorem dL_law_16 : decode bL_law 16 = .ok (.iconst 1, 1) := by decide +kernel
theorem dL_law_17 : decode bL_law 17 = .ok (.newarray .long, 2) := by decide +kernel
theorem dL_law_19 : decode bL_law 19 = .ok (.astore_n 3, 1) := by decide +kernel
theorem dL_law_20 : decode bL_law 20 = .ok (.iconst 0, 1) := by decide +kernel
theorem dL_law_21 : decode bL_law 21 = .ok (.istore 4, 2) := by decide +kernel
theorem dL_law_23 : decode bL_law 23 = .ok (.iload 4, 2) := by decide +kernel
theorem dL_law_25 : decode bL_law 25 = .ok (.aload_n 0, 1) := by decide +kernel
theorem dL_law_26 : decode bL_law 26 = .ok (.arraylength, 1) := by decide +kernel
theorem dL_law_27 : decode bL_law 27 = .ok (.iconst 4, 1) := by decide +kernel
theorem dL_law_28 : decode bL_law 28 = .ok (.isub, 1) := by decide +kernel
theorem dL_law_29 : decode bL_law 29 = .ok (.if_icmp .gt 831, 3) := by decide +kernel
theorem dL_law_32 : decode bL_law 32 = .ok (.aload_n 0, 1) := by decide +kernel
theorem dL_law_33 : decode bL_law 33 = .ok (.iload 4, 2) := by decide +kernel
theorem dL_law_35 : decode bL_law 35 = .ok (.iaload, 1) := by decide +kernel
theorem dL_law_36 : decode bL_law 36 = .ok (.bipush 15, 2) := by decide +kernel
theorem dL_law_38 : decode bL_law 38 = .ok (.iand, 1) := by decide +kernel
theorem dL_law_39 : decode bL_law 39 = .ok (.tableswitch 815 0 12 #[65, 121, 189, 269, 337, 417, 485, 553, 609, 622, 678, 703, 759], 65) := by decide +kernel
theorem dL_law_104 : decode bL_law 104 = .ok (.aload_n 1, 1) := by decide +kernel
theorem dL_law_105 : decode bL_law 105 = .ok (.aload_n 0, 1) := by decide +kernel
theorem dL_law_106 : decode bL_law 106 = .ok (.iload 4, 2) := by decide +kernel
theorem dL_law_108 : decode bL_law 108 = .ok (.iconst 1, 1) := by decide +kernel
theorem dL_law_109 : decode bL_law 109 = .ok (.iadd, 1) := by decide +kernel
theorem dL_law_110 : decode bL_law 110 = .ok (.iaload, 1) := by decide +kernel
theorem dL_law_111 : decode bL_law 111 = .ok (.aload_n 3, 1) := by decide +kernel
theorem dL_law_112 : decode bL_law 112 = .ok (.invokestatic 53, 3) := by decide +kernel
theorem dL_law_115 : decode bL_law 115 = .ok (.istore 5, 2) := by decide +kernel
theorem dL_law_117 : decode bL_law 117 = .ok (.aload_n 2, 1) := by decide +kernel
theorem dL_law_118 : decode bL_law 118 = .ok (.aload_n 0, 1) := by decide +kernel
theorem dL_law_119 : decode bL_law 119 = .ok (.iload 4, 2) := by decide +kernel
theorem dL_law_121 : decode bL_law 121 = .ok (.iconst 1, 1) := by decide +kernel
theorem dL_law_122 : decode bL_law 122 = .ok (.iadd, 1) := by decide +kernel
theorem dL_law_123 : decode bL_law 123 = .ok (.iaload, 1) := by decide +kernel
theorem dL_law_124 : decode bL_law 124 = .ok (.invokevirtual 58, 3) := by decide +kernel
theorem dL_law_127 : decode bL_law 127 = .ok (.istore 6, 2) := by decide +kernel
theorem dL_law_129 : decode bL_law 129 = .ok (.aload_n 2, 1) := by decide +kernel
theorem dL_law_130 : decode bL_law 130 = .ok (.invokevirtual 59, 3) := by decide +kernel
theorem dL_law_133 : decode bL_law 133 = .ok (.iload 5, 2) := by decide +kernel
theorem dL_law_135 : decode bL_law 135 = .ok (.if_icmp .eq 5, 3) := by decide +kernel
theorem dL_law_138 : decode bL_law 138 = .ok (.iconst 0, 1) := by decide +kernel
theorem dL_law_139 : decode bL_law 139 = .ok (.ireturn, 1) := by decide +kernel
theorem dL_law_140 : decode bL_law 140 = .ok (.iload 5, 2) := by decide +kernel
theorem dL_law_142 : decode bL_law 142 = .ok (.ifCond .ne 15, 3) := by decide +kernel
theorem dL_law_145 : decode bL_law 145 = .ok (.aload_n 3, 1) := by decide +kernel
theorem dL_law_146 : decode bL_law 146 = .ok (.iconst 0, 1) := by decide +kernel
theorem dL_law_147 : decode bL_law 147 = .ok (.laload, 1) := by decide +kernel
theorem dL_law_148 : decode bL_law 148 = .ok (.iload 6, 2) := by decide +kernel
theorem dL_law_150 : decode bL_law 150 = .ok (.i2l, 1) := by decide +kernel
theorem dL_law_151 : decode bL_law 151 = .ok (.lcmp, 1) := by decide +kernel
theorem dL_law_152 : decode bL_law 152 = .ok (.ifCond .eq 5, 3) := by decide +kernel
theorem dL_law_155 : decode bL_law 155 = .ok (.iconst 0, 1) := by decide +kernel
theorem dL_law_156 : decode bL_law 156 = .ok (.ireturn, 1) := by decide +kernel
theorem dL_law_157 : decode bL_law 157 = .ok (.goto 697, 3) := by decide +kernel
theorem dL_law_160 : decode bL_law 160 = .ok (.aload_n 1, 1) := by decide +kernel
theorem dL_law_161 : decode bL_law 161 = .ok (.aload_n 0, 1) := by decide +kernel
theorem dL_law_162 : decode bL_law 162 = .ok (.iload 4, 2) := by decide +kernel
theorem dL_law_164 : decode bL_law 164 = .ok (.iconst 1, 1) := by decide +kernel
theorem dL_law_165 : decode bL_law 165 = .ok (.iadd, 1) := by decide +kernel
theorem dL_law_166 : decode bL_law 166 = .ok (.iaload, 1) := by decide +kernel
theorem dL_law_167 : decode bL_law 167 = .ok (.aload_n 0, 1) := by decide +kernel
theorem dL_law_168 : decode bL_law 168 = .ok (.iload 4, 2) := by decide +kernel
theorem dL_law_170 : decode bL_law 170 = .ok (.iconst 2, 1) := by decide +kernel
theorem dL_law_171 : decode bL_law 171 = .ok (.iadd, 1) := by decide +kernel
theorem dL_law_172 : decode bL_law 172 = .ok (.iaload, 1) := by decide +kernel
theorem dL_law_173 : decode bL_law 173 = .ok (.aload_n 3, 1) := by decide +kernel
theorem dL_law_174 : decode bL_law 174 = .ok (.invokestatic 63, 3) := by decide +kernel
theorem dL_law_177 : decode bL_law 177 = .ok (.istore 5, 2) := by decide +kernel
theorem dL_law_179 : decode bL_law 179 = .ok (.aload_n 2, 1) := by decide +kernel
theorem dL_law_180 : decode bL_law 180 = .ok (.aload_n 0, 1) := by decide +kernel
theorem dL_law_181 : decode bL_law 181 = .ok (.iload 4, 2) := by decide +kernel
theorem dL_law_183 : decode bL_law 183 = .ok (.iconst 1, 1) := by decide +kernel
theorem dL_law_184 : decode bL_law 184 = .ok (.iadd, 1) := by decide +kernel
theorem dL_law_185 : decode bL_law 185 = .ok (.iaload, 1) := by decide +kernel
theorem dL_law_186 : decode bL_law 186 = .ok (.aload_n 0, 1) := by decide +kernel
theorem dL_law_187 : decode bL_law 187 = .ok (.iload 4, 2) := by decide +kernel
theorem dL_law_189 : decode bL_law 189 = .ok (.iconst 2, 1) := by decide +kernel
theorem dL_law_190 : decode bL_law 190 = .ok (.iadd, 1) := by decide +kernel
theorem dL_law_191 : decode bL_law 191 = .ok (.iaload, 1) := by decide +kernel
theorem dL_law_192 : decode bL_law 192 = .ok (.invokevirtual 66, 3) := by decide +kernel
theorem dL_law_195 : decode bL_law 195 = .ok (.istore 6, 2) := by decide +kernel
theorem dL_law_197 : decode bL_law 197 = .ok (.aload_n 2, 1) := by decide +kernel
theorem dL_law_198 : decode bL_law 198 = .ok (.invokevirtual 59, 3) := by decide +kernel
theorem dL_law_201 : decode bL_law 201 = .ok (.iload 5, 2) := by decide +kernel
theorem dL_law_203 : decode bL_law 203 = .ok (.if_icmp .eq 5, 3) := by decide +kernel
theorem dL_law_206 : decode bL_law 206 = .ok (.iconst 0, 1) := by decide +kernel
theorem dL_law_207 : decode bL_law 207 = .ok (.ireturn, 1) := by decide +kernel
theorem dL_law_208 : decode bL_law 208 = .ok (.iload 5, 2) := by decide +kernel
theorem dL_law_210 : decode bL_law 210 = .ok (.ifCond .ne 15, 3) := by decide +kernel
theorem dL_law_213 : decode bL_law 213 = .ok (.aload_n 3, 1) := by decide +kernel
theorem dL_law_214 : decode bL_law 214 = .ok (.iconst 0, 1) := by decide +kernel
theorem dL_law_215 : decode bL_law 215 = .ok (.laload, 1) := by decide +kernel
theorem dL_law_216 : decode bL_law 216 = .ok (.iload 6, 2) := by decide +kernel
theorem dL_law_218 : decode bL_law 218 = .ok (.i2l, 1) := by decide +kernel
theorem dL_law_219 : decode bL_law 219 = .ok (.lcmp, 1) := by decide +kernel
theorem dL_law_220 : decode bL_law 220 = .ok (.ifCond .eq 5, 3) := by decide +kernel
theorem dL_law_223 : decode bL_law 223 = .ok (.iconst 0, 1) := by decide +kernel
theorem dL_law_224 : decode bL_law 224 = .ok (.ireturn, 1) := by decide +kernel
theorem dL_law_225 : decode bL_law 225 = .ok (.goto 629, 3) := by decide +kernel
theorem dL_law_228 : decode bL_law 228 = .ok (.aload_n 1, 1) := by decide +kernel
theorem dL_law_229 : decode bL_law 229 = .ok (.aload_n 0, 1) := by decide +kernel
theorem dL_law_230 : decode bL_law 230 = .ok (.iload 4, 2) := by decide +kernel
theorem dL_law_232 : decode bL_law 232 = .ok (.iconst 1, 1) := by decide +kernel
theorem dL_law_233 : decode bL_law 233 = .ok (.iadd, 1) := by decide +kernel
theorem dL_law_234 : decode bL_law 234 = .ok (.iaload, 1) := by decide +kernel
theorem dL_law_235 : decode bL_law 235 = .ok (.aload_n 0, 1) := by decide +kernel
theorem dL_law_236 : decode bL_law 236 = .ok (.iload 4, 2) := by decide +kernel
theorem dL_law_238 : decode bL_law 238 = .ok (.iconst 2, 1) := by decide +kernel
theorem dL_law_239 : decode bL_law 239 = .ok (.iadd, 1) := by decide +kernel
theorem dL_law_240 : decode bL_law 240 = .ok (.iaload, 1) := by decide +kernel
theorem dL_law_241 : decode bL_law 241 = .ok (.aload_n 0, 1) := by decide +kernel
theorem dL_law_242 : decode bL_law 242 = .ok (.iload 4, 2) := by decide +kernel
theorem dL_law_244 : decode bL_law 244 = .ok (.iconst 3, 1) := by decide +kernel
theorem dL_law_245 : decode bL_law 245 = .ok (.iadd, 1) := by decide +kernel
theorem dL_law_246 : decode bL_law 246 = .ok (.iaload, 1) := by decide +kernel
theorem dL_law_247 : decode bL_law 247 = .ok (.aload_n 3, 1) := by decide +kernel
theorem dL_law_248 : decode bL_law 248 = .ok (.invokestatic 67, 3) := by decide +kernel
theorem dL_law_251 : decode bL_law 251 = .ok (.istore 5, 2) := by decide +kernel
theorem dL_law_253 : decode bL_law 253 = .ok (.aload_n 2, 1) := by decide +kernel
theorem dL_law_254 : decode bL_law 254 = .ok (.aload_n 0, 1) := by decide +kernel
theorem dL_law_255 : decode bL_law 255 = .ok (.iload 4, 2) := by decide +kernel
theorem dL_law_257 : decode bL_law 257 = .ok (.iconst 1, 1) := by decide +kernel
theorem dL_law_258 : decode bL_law 258 = .ok (.iadd, 1) := by decide +kernel
theorem dL_law_259 : decode bL_law 259 = .ok (.iaload, 1) := by decide +kernel
theorem dL_law_260 : decode bL_law 260 = .ok (.aload_n 0, 1) := by decide +kernel
theorem dL_law_261 : decode bL_law 261 = .ok (.iload 4, 2) := by decide +kernel
theorem dL_law_263 : decode bL_law 263 = .ok (.iconst 2, 1) := by decide +kernel
theorem dL_law_264 : decode bL_law 264 = .ok (.iadd, 1) := by decide +kernel
theorem dL_law_265 : decode bL_law 265 = .ok (.iaload, 1) := by decide +kernel
theorem dL_law_266 : decode bL_law 266 = .ok (.aload_n 0, 1) := by decide +kernel
theorem dL_law_267 : decode bL_law 267 = .ok (.iload 4, 2) := by decide +kernel
theorem dL_law_269 : decode bL_law 269 = .ok (.iconst 3, 1) := by decide +kernel
theorem dL_law_270 : decode bL_law 270 = .ok (.iadd, 1) := by decide +kernel
theorem dL_law_271 : decode bL_law 271 = .ok (.iaload, 1) := by decide +kernel
theorem dL_law_272 : decode bL_law 272 = .ok (.invokevirtual 70, 3) := by decide +kernel
theorem dL_law_275 : decode bL_law 275 = .ok (.istore 6, 2) := by decide +kernel
theorem dL_law_277 : decode bL_law 277 = .ok (.aload_n 2, 1) := by decide +kernel
theorem dL_law_278 : decode bL_law 278 = .ok (.invokevirtual 59, 3) := by decide +kernel
theorem dL_law_281 : decode bL_law 281 = .ok (.iload 5, 2) := by decide +kernel
theorem dL_law_283 : decode bL_law 283 = .ok (.if_icmp .eq 5, 3) := by decide +kernel
theorem dL_law_286 : decode bL_law 286 = .ok (.iconst 0, 1) := by decide +kernel
theorem dL_law_287 : decode bL_law 287 = .ok (.ireturn, 1) := by decide +kernel
theorem dL_law_288 : decode bL_law 288 = .ok (.iload 5, 2) := by decide +kernel
theorem dL_law_290 : decode bL_law 290 = .ok (.ifCond .ne 15, 3) := by decide +kernel
theorem dL_law_293 : decode bL_law 293 = .ok (.aload_n 3, 1) := by decide +kernel
theorem dL_law_294 : decode bL_law 294 = .ok (.iconst 0, 1) := by decide +kernel
theorem dL_law_295 : decode bL_law 295 = .ok (.laload, 1) := by decide +kernel
theorem dL_law_296 : decode bL_law 296 = .ok (.iload 6, 2) := by decide +kernel
theorem dL_law_298 : decode bL_law 298 = .ok (.i2l, 1) := by decide +kernel
theorem dL_law_299 : decode bL_law 299 = .ok (.lcmp, 1) := by decide +kernel
theorem dL_law_300 : decode bL_law 300 = .ok (.ifCond .eq 5, 3) := by decide +kernel
theorem dL_law_303 : decode bL_law 303 = .ok (.iconst 0, 1) := by decide +kernel
theorem dL_law_304 : decode bL_law 304 = .ok (.ireturn, 1) := by decide +kernel
theorem dL_law_305 : decode bL_law 305 = .ok (.goto 549, 3) := by decide +kernel
theorem dL_law_308 : decode bL_law 308 = .ok (.aload_n 1, 1) := by decide +kernel
theorem dL_law_309 : decode bL_law 309 = .ok (.aload_n 0, 1) := by decide +kernel
theorem dL_law_310 : decode bL_law 310 = .ok (.iload 4, 2) := by decide +kernel
theorem dL_law_312 : decode bL_law 312 = .ok (.iconst 1, 1) := by decide +kernel
theorem dL_law_313 : decode bL_law 313 = .ok (.iadd, 1) := by decide +kernel
theorem dL_law_314 : decode bL_law 314 = .ok (.iaload, 1) := by decide +kernel
theorem dL_law_315 : decode bL_law 315 = .ok (.aload_n 0, 1) := by decide +kernel
theorem dL_law_316 : decode bL_law 316 = .ok (.iload 4, 2) := by decide +kernel
theorem dL_law_318 : decode bL_law 318 = .ok (.iconst 2, 1) := by decide +kernel
theorem dL_law_319 : decode bL_law 319 = .ok (.iadd, 1) := by decide +kernel
theorem dL_law_320 : decode bL_law 320 = .ok (.iaload, 1) := by decide +kernel
theorem dL_law_321 : decode bL_law 321 = .ok (.aload_n 3, 1) := by decide +kernel
theorem dL_law_322 : decode bL_law 322 = .ok (.invokestatic 71, 3) := by decide +kernel
theorem dL_law_325 : decode bL_law 325 = .ok (.istore 5, 2) := by decide +kernel
theorem dL_law_327 : decode bL_law 327 = .ok (.aload_n 2, 1) := by decide +kernel
theorem dL_law_328 : decode bL_law 328 = .ok (.aload_n 0, 1) := by decide +kernel
theorem dL_law_329 : decode bL_law 329 = .ok (.iload 4, 2) := by decide +kernel
theorem dL_law_331 : decode bL_law 331 = .ok (.iconst 1, 1) := by decide +kernel
theorem dL_law_332 : decode bL_law 332 = .ok (.iadd, 1) := by decide +kernel
theorem dL_law_333 : decode bL_law 333 = .ok (.iaload, 1) := by decide +kernel
theorem dL_law_334 : decode bL_law 334 = .ok (.aload_n 0, 1) := by decide +kernel
theorem dL_law_335 : decode bL_law 335 = .ok (.iload 4, 2) := by decide +kernel
theorem dL_law_337 : decode bL_law 337 = .ok (.iconst 2, 1) := by decide +kernel
theorem dL_law_338 : decode bL_law 338 = .ok (.iadd, 1) := by decide +kernel
theorem dL_law_339 : decode bL_law 339 = .ok (.iaload, 1) := by decide +kernel
theorem dL_law_340 : decode bL_law 340 = .ok (.invokevirtual 73, 3) := by decide +kernel
theorem dL_law_343 : decode bL_law 343 = .ok (.istore 6, 2) := by decide +kernel
theorem dL_law_345 : decode bL_law 345 = .ok (.aload_n 2, 1) := by decide +kernel
theorem dL_law_346 : decode bL_law 346 = .ok (.invokevirtual 59, 3) := by decide +kernel
theorem dL_law_349 : decode bL_law 349 = .ok (.iload 5, 2) := by decide +kernel
theorem dL_law_351 : decode bL_law 351 = .ok (.if_icmp .eq 5, 3) := by decide +kernel
theorem dL_law_354 : decode bL_law 354 = .ok (.iconst 0, 1) := by decide +kernel
theorem dL_law_355 : decode bL_law 355 = .ok (.ireturn, 1) := by decide +kernel
theorem dL_law_356 : decode bL_law 356 = .ok (.iload 5, 2) := by decide +kernel
theorem dL_law_358 : decode bL_law 358 = .ok (.ifCond .ne 15, 3) := by decide +kernel
theorem dL_law_361 : decode bL_law 361 = .ok (.aload_n 3, 1) := by decide +kernel
theorem dL_law_362 : decode bL_law 362 = .ok (.iconst 0, 1) := by decide +kernel
theorem dL_law_363 : decode bL_law 363 = .ok (.laload, 1) := by decide +kernel
theorem dL_law_364 : decode bL_law 364 = .ok (.iload 6, 2) := by decide +kernel
theorem dL_law_366 : decode bL_law 366 = .ok (.i2l, 1) := by decide +kernel
theorem dL_law_367 : decode bL_law 367 = .ok (.lcmp, 1) := by decide +kernel
theorem dL_law_368 : decode bL_law 368 = .ok (.ifCond .eq 5, 3) := by decide +kernel
theorem dL_law_371 : decode bL_law 371 = .ok (.iconst 0, 1) := by decide +kernel
theorem dL_law_372 : decode bL_law 372 = .ok (.ireturn, 1) := by decide +kernel
theorem dL_law_373 : decode bL_law 373 = .ok (.goto 481, 3) := by decide +kernel
theorem dL_law_376 : decode bL_law 376 = .ok (.aload_n 1, 1) := by decide +kernel
theorem dL_law_377 : decode bL_law 377 = .ok (.aload_n 0, 1) := by decide +kernel
theorem dL_law_378 : decode bL_law 378 = .ok (.iload 4, 2) := by decide +kernel
theorem dL_law_380 : decode bL_law 380 = .ok (.iconst 1, 1) := by decide +kernel
theorem dL_law_381 : decode bL_law 381 = .ok (.iadd, 1) := by decide +kernel
theorem dL_law_382 : decode bL_law 382 = .ok (.iaload, 1) := by decide +kernel
theorem dL_law_383 : decode bL_law 383 = .ok (.aload_n 0, 1) := by decide +kernel
theorem dL_law_384 : decode bL_law 384 = .ok (.iload 4, 2) := by decide +kernel
theorem dL_law_386 : decode bL_law 386 = .ok (.iconst 2, 1) := by decide +kernel
theorem dL_law_387 : decode bL_law 387 = .ok (.iadd, 1) := by decide +kernel
theorem dL_law_388 : decode bL_law 388 = .ok (.iaload, 1) := by decide +kernel
theorem dL_law_389 : decode bL_law 389 = .ok (.aload_n 0, 1) := by decide +kernel
theorem dL_law_390 : decode bL_law 390 = .ok (.iload 4, 2) := by decide +kernel
theorem dL_law_392 : decode bL_law 392 = .ok (.iconst 3, 1) := by decide +kernel
theorem dL_law_393 : decode bL_law 393 = .ok (.iadd, 1) := by decide +kernel
theorem dL_law_394 : decode bL_law 394 = .ok (.iaload, 1) := by decide +kernel
theorem dL_law_395 : decode bL_law 395 = .ok (.aload_n 3, 1) := by decide +kernel
theorem dL_law_396 : decode bL_law 396 = .ok (.invokestatic 74, 3) := by decide +kernel
theorem dL_law_399 : decode bL_law 399 = .ok (.istore 5, 2) := by decide +kernel
theorem dL_law_401 : decode bL_law 401 = .ok (.aload_n 2, 1) := by decide +kernel
theorem dL_law_402 : decode bL_law 402 = .ok (.aload_n 0, 1) := by decide +kernel
theorem dL_law_403 : decode bL_law 403 = .ok (.iload 4, 2) := by decide +kernel
theorem dL_law_405 : decode bL_law 405 = .ok (.iconst 1, 1) := by decide +kernel
theorem dL_law_406 : decode bL_law 406 = .ok (.iadd, 1) := by decide +kernel
theorem dL_law_407 : decode bL_law 407 = .ok (.iaload, 1) := by decide +kernel
theorem dL_law_408 : decode bL_law 408 = .ok (.aload_n 0, 1) := by decide +kernel
theorem dL_law_409 : decode bL_law 409 = .ok (.iload 4, 2) := by decide +kernel
theorem dL_law_411 : decode bL_law 411 = .ok (.iconst 2, 1) := by decide +kernel
theorem dL_law_412 : decode bL_law 412 = .ok (.iadd, 1) := by decide +kernel
theorem dL_law_413 : decode bL_law 413 = .ok (.iaload, 1) := by decide +kernel
theorem dL_law_414 : decode bL_law 414 = .ok (.aload_n 0, 1) := by decide +kernel
theorem dL_law_415 : decode bL_law 415 = .ok (.iload 4, 2) := by decide +kernel
theorem dL_law_417 : decode bL_law 417 = .ok (.iconst 3, 1) := by decide +kernel
theorem dL_law_418 : decode bL_law 418 = .ok (.iadd, 1) := by decide +kernel
theorem dL_law_419 : decode bL_law 419 = .ok (.iaload, 1) := by decide +kernel
theorem dL_law_420 : decode bL_law 420 = .ok (.invokevirtual 76, 3) := by decide +kernel
theorem dL_law_423 : decode bL_law 423 = .ok (.istore 6, 2) := by decide +kernel
theorem dL_law_425 : decode bL_law 425 = .ok (.aload_n 2, 1) := by decide +kernel
theorem dL_law_426 : decode bL_law 426 = .ok (.invokevirtual 59, 3) := by decide +kernel
theorem dL_law_429 : decode bL_law 429 = .ok (.iload 5, 2) := by decide +kernel
theorem dL_law_431 : decode bL_law 431 = .ok (.if_icmp .eq 5, 3) := by decide +kernel
theorem dL_law_434 : decode bL_law 434 = .ok (.iconst 0, 1) := by decide +kernel
theorem dL_law_435 : decode bL_law 435 = .ok (.ireturn, 1) := by decide +kernel
theorem dL_law_436 : decode bL_law 436 = .ok (.iload 5, 2) := by decide +kernel
theorem dL_law_438 : decode bL_law 438 = .ok (.ifCond .ne 15, 3) := by decide +kernel
theorem dL_law_441 : decode bL_law 441 = .ok (.aload_n 3, 1) := by decide +kernel
theorem dL_law_442 : decode bL_law 442 = .ok (.iconst 0, 1) := by decide +kernel
theorem dL_law_443 : decode bL_law 443 = .ok (.laload, 1) := by decide +kernel
theorem dL_law_444 : decode bL_law 444 = .ok (.iload 6, 2) := by decide +kernel
theorem dL_law_446 : decode bL_law 446 = .ok (.i2l, 1) := by decide +kernel
theorem dL_law_447 : decode bL_law 447 = .ok (.lcmp, 1) := by decide +kernel
theorem dL_law_448 : decode bL_law 448 = .ok (.ifCond .eq 5, 3) := by decide +kernel
theorem dL_law_451 : decode bL_law 451 = .ok (.iconst 0, 1) := by decide +kernel
theorem dL_law_452 : decode bL_law 452 = .ok (.ireturn, 1) := by decide +kernel
theorem dL_law_453 : decode bL_law 453 = .ok (.goto 401, 3) := by decide +kernel
theorem dL_law_456 : decode bL_law 456 = .ok (.aload_n 1, 1) := by decide +kernel
theorem dL_law_457 : decode bL_law 457 = .ok (.aload_n 0, 1) := by decide +kernel
theorem dL_law_458 : decode bL_law 458 = .ok (.iload 4, 2) := by decide +kernel
theorem dL_law_460 : decode bL_law 460 = .ok (.iconst 1, 1) := by decide +kernel
theorem dL_law_461 : decode bL_law 461 = .ok (.iadd, 1) := by decide +kernel
theorem dL_law_462 : decode bL_law 462 = .ok (.iaload, 1) := by decide +kernel
theorem dL_law_463 : decode bL_law 463 = .ok (.aload_n 0, 1) := by decide +kernel
theorem dL_law_464 : decode bL_law 464 = .ok (.iload 4, 2) := by decide +kernel
theorem dL_law_466 : decode bL_law 466 = .ok (.iconst 2, 1) := by decide +kernel
theorem dL_law_467 : decode bL_law 467 = .ok (.iadd, 1) := by decide +kernel
theorem dL_law_468 : decode bL_law 468 = .ok (.iaload, 1) := by decide +kernel
theorem dL_law_469 : decode bL_law 469 = .ok (.aload_n 3, 1) := by decide +kernel
theorem dL_law_470 : decode bL_law 470 = .ok (.invokestatic 77, 3) := by decide +kernel
theorem dL_law_473 : decode bL_law 473 = .ok (.istore 5, 2) := by decide +kernel
theorem dL_law_475 : decode bL_law 475 = .ok (.aload_n 2, 1) := by decide +kernel
theorem dL_law_476 : decode bL_law 476 = .ok (.aload_n 0, 1) := by decide +kernel
theorem dL_law_477 : decode bL_law 477 = .ok (.iload 4, 2) := by decide +kernel
theorem dL_law_479 : decode bL_law 479 = .ok (.iconst 1, 1) := by decide +kernel
theorem dL_law_480 : decode bL_law 480 = .ok (.iadd, 1) := by decide +kernel
theorem dL_law_481 : decode bL_law 481 = .ok (.iaload, 1) := by decide +kernel
theorem dL_law_482 : decode bL_law 482 = .ok (.aload_n 0, 1) := by decide +kernel
theorem dL_law_483 : decode bL_law 483 = .ok (.iload 4, 2) := by decide +kernel
theorem dL_law_485 : decode bL_law 485 = .ok (.iconst 2, 1) := by decide +kernel
theorem dL_law_486 : decode bL_law 486 = .ok (.iadd, 1) := by decide +kernel
theorem dL_law_487 : decode bL_law 487 = .ok (.iaload, 1) := by decide +kernel
theorem dL_law_488 : decode bL_law 488 = .ok (.invokevirtual 79, 3) := by decide +kernel
theorem dL_law_491 : decode bL_law 491 = .ok (.istore 6, 2) := by decide +kernel
theorem dL_law_493 : decode bL_law 493 = .ok (.aload_n 2, 1) := by decide +kernel
theorem dL_law_494 : decode bL_law 494 = .ok (.invokevirtual 59, 3) := by decide +kernel
theorem dL_law_497 : decode bL_law 497 = .ok (.iload 5, 2) := by decide +kernel
theorem dL_law_499 : decode bL_law 499 = .ok (.if_icmp .eq 5, 3) := by decide +kernel
theorem dL_law_502 : decode bL_law 502 = .ok (.iconst 0, 1) := by decide +kernel
theorem dL_law_503 : decode bL_law 503 = .ok (.ireturn, 1) := by decide +kernel
theorem dL_law_504 : decode bL_law 504 = .ok (.iload 5, 2) := by decide +kernel
theorem dL_law_506 : decode bL_law 506 = .ok (.ifCond .ne 15, 3) := by decide +kernel
theorem dL_law_509 : decode bL_law 509 = .ok (.aload_n 3, 1) := by decide +kernel
theorem dL_law_510 : decode bL_law 510 = .ok (.iconst 0, 1) := by decide +kernel
theorem dL_law_511 : decode bL_law 511 = .ok (.laload, 1) := by decide +kernel
theorem dL_law_512 : decode bL_law 512 = .ok (.iload 6, 2) := by decide +kernel
theorem dL_law_514 : decode bL_law 514 = .ok (.i2l, 1) := by decide +kernel
theorem dL_law_515 : decode bL_law 515 = .ok (.lcmp, 1) := by decide +kernel
theorem dL_law_516 : decode bL_law 516 = .ok (.ifCond .eq 5, 3) := by decide +kernel
theorem dL_law_519 : decode bL_law 519 = .ok (.iconst 0, 1) := by decide +kernel
theorem dL_law_520 : decode bL_law 520 = .ok (.ireturn, 1) := by decide +kernel
theorem dL_law_521 : decode bL_law 521 = .ok (.goto 333, 3) := by decide +kernel
theorem dL_law_524 : decode bL_law 524 = .ok (.aload_n 1, 1) := by decide +kernel
theorem dL_law_525 : decode bL_law 525 = .ok (.aload_n 0, 1) := by decide +kernel
theorem dL_law_526 : decode bL_law 526 = .ok (.iload 4, 2) := by decide +kernel
theorem dL_law_528 : decode bL_law 528 = .ok (.iconst 1, 1) := by decide +kernel
theorem dL_law_529 : decode bL_law 529 = .ok (.iadd, 1) := by decide +kernel
theorem dL_law_530 : decode bL_law 530 = .ok (.iaload, 1) := by decide +kernel
theorem dL_law_531 : decode bL_law 531 = .ok (.aload_n 0, 1) := by decide +kernel
theorem dL_law_532 : decode bL_law 532 = .ok (.iload 4, 2) := by decide +kernel
theorem dL_law_534 : decode bL_law 534 = .ok (.iconst 2, 1) := by decide +kernel
theorem dL_law_535 : decode bL_law 535 = .ok (.iadd, 1) := by decide +kernel
theorem dL_law_536 : decode bL_law 536 = .ok (.iaload, 1) := by decide +kernel
theorem dL_law_537 : decode bL_law 537 = .ok (.aload_n 3, 1) := by decide +kernel
theorem dL_law_538 : decode bL_law 538 = .ok (.invokestatic 80, 3) := by decide +kernel
theorem dL_law_541 : decode bL_law 541 = .ok (.istore 5, 2) := by decide +kernel
theorem dL_law_543 : decode bL_law 543 = .ok (.aload_n 2, 1) := by decide +kernel
theorem dL_law_544 : decode bL_law 544 = .ok (.aload_n 0, 1) := by decide +kernel
theorem dL_law_545 : decode bL_law 545 = .ok (.iload 4, 2) := by decide +kernel
theorem dL_law_547 : decode bL_law 547 = .ok (.iconst 1, 1) := by decide +kernel
theorem dL_law_548 : decode bL_law 548 = .ok (.iadd, 1) := by decide +kernel
theorem dL_law_549 : decode bL_law 549 = .ok (.iaload, 1) := by decide +kernel
theorem dL_law_550 : decode bL_law 550 = .ok (.aload_n 0, 1) := by decide +kernel
theorem dL_law_551 : decode bL_law 551 = .ok (.iload 4, 2) := by decide +kernel
theorem dL_law_553 : decode bL_law 553 = .ok (.iconst 2, 1) := by decide +kernel
theorem dL_law_554 : decode bL_law 554 = .ok (.iadd, 1) := by decide +kernel
theorem dL_law_555 : decode bL_law 555 = .ok (.iaload, 1) := by decide +kernel
theorem dL_law_556 : decode bL_law 556 = .ok (.invokevirtual 82, 3) := by decide +kernel
theorem dL_law_559 : decode bL_law 559 = .ok (.istore 6, 2) := by decide +kernel
theorem dL_law_561 : decode bL_law 561 = .ok (.aload_n 2, 1) := by decide +kernel
theorem dL_law_562 : decode bL_law 562 = .ok (.invokevirtual 59, 3) := by decide +kernel
theorem dL_law_565 : decode bL_law 565 = .ok (.iload 5, 2) := by decide +kernel
theorem dL_law_567 : decode bL_law 567 = .ok (.if_icmp .eq 5, 3) := by decide +kernel
theorem dL_law_570 : decode bL_law 570 = .ok (.iconst 0, 1) := by decide +kernel
theorem dL_law_571 : decode bL_law 571 = .ok (.ireturn, 1) := by decide +kernel
theorem dL_law_572 : decode bL_law 572 = .ok (.iload 5, 2) := by decide +kernel
theorem dL_law_574 : decode bL_law 574 = .ok (.ifCond .ne 15, 3) := by decide +kernel
theorem dL_law_577 : decode bL_law 577 = .ok (.aload_n 3, 1) := by decide +kernel
theorem dL_law_578 : decode bL_law 578 = .ok (.iconst 0, 1) := by decide +kernel
theorem dL_law_579 : decode bL_law 579 = .ok (.laload, 1) := by decide +kernel
theorem dL_law_580 : decode bL_law 580 = .ok (.iload 6, 2) := by decide +kernel
theorem dL_law_582 : decode bL_law 582 = .ok (.i2l, 1) := by decide +kernel
theorem dL_law_583 : decode bL_law 583 = .ok (.lcmp, 1) := by decide +kernel
theorem dL_law_584 : decode bL_law 584 = .ok (.ifCond .eq 5, 3) := by decide +kernel
theorem dL_law_587 : decode bL_law 587 = .ok (.iconst 0, 1) := by decide +kernel
theorem dL_law_588 : decode bL_law 588 = .ok (.ireturn, 1) := by decide +kernel
theorem dL_law_589 : decode bL_law 589 = .ok (.goto 265, 3) := by decide +kernel
theorem dL_law_592 : decode bL_law 592 = .ok (.aload_n 1, 1) := by decide +kernel
theorem dL_law_593 : decode bL_law 593 = .ok (.aload_n 0, 1) := by decide +kernel
theorem dL_law_594 : decode bL_law 594 = .ok (.iload 4, 2) := by decide +kernel
theorem dL_law_596 : decode bL_law 596 = .ok (.iconst 1, 1) := by decide +kernel
theorem dL_law_597 : decode bL_law 597 = .ok (.iadd, 1) := by decide +kernel
theorem dL_law_598 : decode bL_law 598 = .ok (.iaload, 1) := by decide +kernel
theorem dL_law_599 : decode bL_law 599 = .ok (.aload_n 3, 1) := by decide +kernel
theorem dL_law_600 : decode bL_law 600 = .ok (.invokestatic 83, 3) := by decide +kernel
theorem dL_law_603 : decode bL_law 603 = .ok (.istore 5, 2) := by decide +kernel
theorem dL_law_605 : decode bL_law 605 = .ok (.aload_n 2, 1) := by decide +kernel
theorem dL_law_606 : decode bL_law 606 = .ok (.aload_n 0, 1) := by decide +kernel
theorem dL_law_607 : decode bL_law 607 = .ok (.iload 4, 2) := by decide +kernel
theorem dL_law_609 : decode bL_law 609 = .ok (.iconst 1, 1) := by decide +kernel
theorem dL_law_610 : decode bL_law 610 = .ok (.iadd, 1) := by decide +kernel
theorem dL_law_611 : decode bL_law 611 = .ok (.iaload, 1) := by decide +kernel
theorem dL_law_612 : decode bL_law 612 = .ok (.invokevirtual 85, 3) := by decide +kernel
theorem dL_law_615 : decode bL_law 615 = .ok (.istore 6, 2) := by decide +kernel
theorem dL_law_617 : decode bL_law 617 = .ok (.aload_n 2, 1) := by decide +kernel
theorem dL_law_618 : decode bL_law 618 = .ok (.invokevirtual 59, 3) := by decide +kernel
theorem dL_law_621 : decode bL_law 621 = .ok (.iload 5, 2) := by decide +kernel
theorem dL_law_623 : decode bL_law 623 = .ok (.if_icmp .eq 5, 3) := by decide +kernel
theorem dL_law_626 : decode bL_law 626 = .ok (.iconst 0, 1) := by decide +kernel
theorem dL_law_627 : decode bL_law 627 = .ok (.ireturn, 1) := by decide +kernel
theorem dL_law_628 : decode bL_law 628 = .ok (.iload 5, 2) := by decide +kernel
theorem dL_law_630 : decode bL_law 630 = .ok (.ifCond .ne 15, 3) := by decide +kernel
theorem dL_law_633 : decode bL_law 633 = .ok (.aload_n 3, 1) := by decide +kernel
theorem dL_law_634 : decode bL_law 634 = .ok (.iconst 0, 1) := by decide +kernel
theorem dL_law_635 : decode bL_law 635 = .ok (.laload, 1) := by decide +kernel
theorem dL_law_636 : decode bL_law 636 = .ok (.iload 6, 2) := by decide +kernel
theorem dL_law_638 : decode bL_law 638 = .ok (.i2l, 1) := by decide +kernel
theorem dL_law_639 : decode bL_law 639 = .ok (.lcmp, 1) := by decide +kernel
theorem dL_law_640 : decode bL_law 640 = .ok (.ifCond .eq 5, 3) := by decide +kernel
theorem dL_law_643 : decode bL_law 643 = .ok (.iconst 0, 1) := by decide +kernel
theorem dL_law_644 : decode bL_law 644 = .ok (.ireturn, 1) := by decide +kernel
theorem dL_law_645 : decode bL_law 645 = .ok (.goto 209, 3) := by decide +kernel
theorem dL_law_648 : decode bL_law 648 = .ok (.aload_n 1, 1) := by decide +kernel
theorem dL_law_649 : decode bL_law 649 = .ok (.invokevirtual 86, 3) := by decide +kernel
theorem dL_law_652 : decode bL_law 652 = .ok (.aload_n 2, 1) := by decide +kernel
theorem dL_law_653 : decode bL_law 653 = .ok (.invokevirtual 89, 3) := by decide +kernel
theorem dL_law_656 : decode bL_law 656 = .ok (.if_icmp .eq 198, 3) := by decide +kernel
theorem dL_law_659 : decode bL_law 659 = .ok (.iconst 0, 1) := by decide +kernel
theorem dL_law_660 : decode bL_law 660 = .ok (.ireturn, 1) := by decide +kernel
theorem dL_law_661 : decode bL_law 661 = .ok (.aload_n 1, 1) := by decide +kernel
theorem dL_law_662 : decode bL_law 662 = .ok (.aload_n 0, 1) := by decide +kernel
theorem dL_law_663 : decode bL_law 663 = .ok (.iload 4, 2) := by decide +kernel
theorem dL_law_665 : decode bL_law 665 = .ok (.iconst 1, 1) := by decide +kernel
theorem dL_law_666 : decode bL_law 666 = .ok (.iadd, 1) := by decide +kernel
theorem dL_law_667 : decode bL_law 667 = .ok (.iaload, 1) := by decide +kernel
theorem dL_law_668 : decode bL_law 668 = .ok (.aload_n 3, 1) := by decide +kernel
theorem dL_law_669 : decode bL_law 669 = .ok (.invokestatic 90, 3) := by decide +kernel
theorem dL_law_672 : decode bL_law 672 = .ok (.istore 5, 2) := by decide +kernel
theorem dL_law_674 : decode bL_law 674 = .ok (.aload_n 2, 1) := by decide +kernel
theorem dL_law_675 : decode bL_law 675 = .ok (.aload_n 0, 1) := by decide +kernel
theorem dL_law_676 : decode bL_law 676 = .ok (.iload 4, 2) := by decide +kernel
theorem dL_law_678 : decode bL_law 678 = .ok (.iconst 1, 1) := by decide +kernel
theorem dL_law_679 : decode bL_law 679 = .ok (.iadd, 1) := by decide +kernel
theorem dL_law_680 : decode bL_law 680 = .ok (.iaload, 1) := by decide +kernel
theorem dL_law_681 : decode bL_law 681 = .ok (.invokevirtual 92, 3) := by decide +kernel
theorem dL_law_684 : decode bL_law 684 = .ok (.istore 6, 2) := by decide +kernel
theorem dL_law_686 : decode bL_law 686 = .ok (.aload_n 2, 1) := by decide +kernel
theorem dL_law_687 : decode bL_law 687 = .ok (.invokevirtual 59, 3) := by decide +kernel
theorem dL_law_690 : decode bL_law 690 = .ok (.iload 5, 2) := by decide +kernel
theorem dL_law_692 : decode bL_law 692 = .ok (.if_icmp .eq 5, 3) := by decide +kernel
theorem dL_law_695 : decode bL_law 695 = .ok (.iconst 0, 1) := by decide +kernel
theorem dL_law_696 : decode bL_law 696 = .ok (.ireturn, 1) := by decide +kernel
theorem dL_law_697 : decode bL_law 697 = .ok (.iload 5, 2) := by decide +kernel
theorem dL_law_699 : decode bL_law 699 = .ok (.ifCond .ne 15, 3) := by decide +kernel
theorem dL_law_702 : decode bL_law 702 = .ok (.aload_n 3, 1) := by decide +kernel
theorem dL_law_703 : decode bL_law 703 = .ok (.iconst 0, 1) := by decide +kernel
theorem dL_law_704 : decode bL_law 704 = .ok (.laload, 1) := by decide +kernel
theorem dL_law_705 : decode bL_law 705 = .ok (.iload 6, 2) := by decide +kernel
theorem dL_law_707 : decode bL_law 707 = .ok (.i2l, 1) := by decide +kernel
theorem dL_law_708 : decode bL_law 708 = .ok (.lcmp, 1) := by decide +kernel
theorem dL_law_709 : decode bL_law 709 = .ok (.ifCond .eq 5, 3) := by decide +kernel
theorem dL_law_712 : decode bL_law 712 = .ok (.iconst 0, 1) := by decide +kernel
theorem dL_law_713 : decode bL_law 713 = .ok (.ireturn, 1) := by decide +kernel
theorem dL_law_714 : decode bL_law 714 = .ok (.goto 140, 3) := by decide +kernel
theorem dL_law_717 : decode bL_law 717 = .ok (.aload_n 1, 1) := by decide +kernel
theorem dL_law_718 : decode bL_law 718 = .ok (.aload_n 0, 1) := by decide +kernel
theorem dL_law_719 : decode bL_law 719 = .ok (.iload 4, 2) := by decide +kernel
theorem dL_law_721 : decode bL_law 721 = .ok (.iconst 1, 1) := by decide +kernel
theorem dL_law_722 : decode bL_law 722 = .ok (.iadd, 1) := by decide +kernel
theorem dL_law_723 : decode bL_law 723 = .ok (.iaload, 1) := by decide +kernel
theorem dL_law_724 : decode bL_law 724 = .ok (.invokevirtual 93, 3) := by decide +kernel
theorem dL_law_727 : decode bL_law 727 = .ok (.aload_n 2, 1) := by decide +kernel
theorem dL_law_728 : decode bL_law 728 = .ok (.aload_n 0, 1) := by decide +kernel
theorem dL_law_729 : decode bL_law 729 = .ok (.iload 4, 2) := by decide +kernel
theorem dL_law_731 : decode bL_law 731 = .ok (.iconst 1, 1) := by decide +kernel
theorem dL_law_732 : decode bL_law 732 = .ok (.iadd, 1) := by decide +kernel
theorem dL_law_733 : decode bL_law 733 = .ok (.iaload, 1) := by decide +kernel
theorem dL_law_734 : decode bL_law 734 = .ok (.invokevirtual 96, 3) := by decide +kernel
theorem dL_law_737 : decode bL_law 737 = .ok (.if_icmp .eq 117, 3) := by decide +kernel
theorem dL_law_740 : decode bL_law 740 = .ok (.iconst 0, 1) := by decide +kernel
theorem dL_law_741 : decode bL_law 741 = .ok (.ireturn, 1) := by decide +kernel
theorem dL_law_742 : decode bL_law 742 = .ok (.aload_n 1, 1) := by decide +kernel
theorem dL_law_743 : decode bL_law 743 = .ok (.aload_n 0, 1) := by decide +kernel
theorem dL_law_744 : decode bL_law 744 = .ok (.iload 4, 2) := by decide +kernel
theorem dL_law_746 : decode bL_law 746 = .ok (.iconst 1, 1) := by decide +kernel
theorem dL_law_747 : decode bL_law 747 = .ok (.iadd, 1) := by decide +kernel
theorem dL_law_748 : decode bL_law 748 = .ok (.iaload, 1) := by decide +kernel
theorem dL_law_749 : decode bL_law 749 = .ok (.aload_n 3, 1) := by decide +kernel
theorem dL_law_750 : decode bL_law 750 = .ok (.invokestatic 97, 3) := by decide +kernel
theorem dL_law_753 : decode bL_law 753 = .ok (.istore 5, 2) := by decide +kernel
theorem dL_law_755 : decode bL_law 755 = .ok (.aload_n 2, 1) := by decide +kernel
theorem dL_law_756 : decode bL_law 756 = .ok (.aload_n 0, 1) := by decide +kernel
theorem dL_law_757 : decode bL_law 757 = .ok (.iload 4, 2) := by decide +kernel
theorem dL_law_759 : decode bL_law 759 = .ok (.iconst 1, 1) := by decide +kernel
theorem dL_law_760 : decode bL_law 760 = .ok (.iadd, 1) := by decide +kernel
theorem dL_law_761 : decode bL_law 761 = .ok (.iaload, 1) := by decide +kernel
theorem dL_law_762 : decode bL_law 762 = .ok (.invokevirtual 99, 3) := by decide +kernel
theorem dL_law_765 : decode bL_law 765 = .ok (.istore 6, 2) := by decide +kernel
theorem dL_law_767 : decode bL_law 767 = .ok (.aload_n 2, 1) := by decide +kernel
theorem dL_law_768 : decode bL_law 768 = .ok (.invokevirtual 59, 3) := by decide +kernel
theorem dL_law_771 : decode bL_law 771 = .ok (.iload 5, 2) := by decide +kernel
theorem dL_law_773 : decode bL_law 773 = .ok (.if_icmp .eq 5, 3) := by decide +kernel
theorem dL_law_776 : decode bL_law 776 = .ok (.iconst 0, 1) := by decide +kernel
theorem dL_law_777 : decode bL_law 777 = .ok (.ireturn, 1) := by decide +kernel
theorem dL_law_778 : decode bL_law 778 = .ok (.iload 5, 2) := by decide +kernel
theorem dL_law_780 : decode bL_law 780 = .ok (.ifCond .ne 15, 3) := by decide +kernel
theorem dL_law_783 : decode bL_law 783 = .ok (.aload_n 3, 1) := by decide +kernel
theorem dL_law_784 : decode bL_law 784 = .ok (.iconst 0, 1) := by decide +kernel
theorem dL_law_785 : decode bL_law 785 = .ok (.laload, 1) := by decide +kernel
theorem dL_law_786 : decode bL_law 786 = .ok (.iload 6, 2) := by decide +kernel
theorem dL_law_788 : decode bL_law 788 = .ok (.i2l, 1) := by decide +kernel
theorem dL_law_789 : decode bL_law 789 = .ok (.lcmp, 1) := by decide +kernel
theorem dL_law_790 : decode bL_law 790 = .ok (.ifCond .eq 5, 3) := by decide +kernel
theorem dL_law_793 : decode bL_law 793 = .ok (.iconst 0, 1) := by decide +kernel
theorem dL_law_794 : decode bL_law 794 = .ok (.ireturn, 1) := by decide +kernel
theorem dL_law_795 : decode bL_law 795 = .ok (.goto 59, 3) := by decide +kernel
theorem dL_law_798 : decode bL_law 798 = .ok (.aload_n 1, 1) := by decide +kernel
theorem dL_law_799 : decode bL_law 799 = .ok (.aload_n 0, 1) := by decide +kernel
theorem dL_law_800 : decode bL_law 800 = .ok (.iload 4, 2) := by decide +kernel
theorem dL_law_802 : decode bL_law 802 = .ok (.iconst 1, 1) := by decide +kernel
theorem dL_law_803 : decode bL_law 803 = .ok (.iadd, 1) := by decide +kernel
theorem dL_law_804 : decode bL_law 804 = .ok (.iaload, 1) := by decide +kernel
theorem dL_law_805 : decode bL_law 805 = .ok (.aload_n 3, 1) := by decide +kernel
theorem dL_law_806 : decode bL_law 806 = .ok (.invokestatic 100, 3) := by decide +kernel
theorem dL_law_809 : decode bL_law 809 = .ok (.istore 5, 2) := by decide +kernel
theorem dL_law_811 : decode bL_law 811 = .ok (.aload_n 2, 1) := by decide +kernel
theorem dL_law_812 : decode bL_law 812 = .ok (.aload_n 0, 1) := by decide +kernel
theorem dL_law_813 : decode bL_law 813 = .ok (.iload 4, 2) := by decide +kernel
theorem dL_law_815 : decode bL_law 815 = .ok (.iconst 1, 1) := by decide +kernel
theorem dL_law_816 : decode bL_law 816 = .ok (.iadd, 1) := by decide +kernel
theorem dL_law_817 : decode bL_law 817 = .ok (.iaload, 1) := by decide +kernel
theorem dL_law_818 : decode bL_law 818 = .ok (.invokevirtual 102, 3) := by decide +kernel
theorem dL_law_821 : decode bL_law 821 = .ok (.istore 6, 2) := by decide +kernel
theorem dL_law_823 : decode bL_law 823 = .ok (.aload_n 2, 1) := by decide +kernel
theorem dL_law_824 : decode bL_law 824 = .ok (.invokevirtual 59, 3) := by decide +kernel
theorem dL_law_827 : decode bL_law 827 = .ok (.iload 5, 2) := by decide +kernel
theorem dL_law_829 : decode bL_law 829 = .ok (.if_icmp .eq 5, 3) := by decide +kernel
theorem dL_law_832 : decode bL_law 832 = .ok (.iconst 0, 1) := by decide +kernel
theorem dL_law_833 : decode bL_law 833 = .ok (.ireturn, 1) := by decide +kernel
theorem dL_law_834 : decode bL_law 834 = .ok (.iload 5, 2) := by decide +kernel
theorem dL_law_836 : decode bL_law 836 = .ok (.ifCond .ne 15, 3) := by decide +kernel
theorem dL_law_839 : decode bL_law 839 = .ok (.aload_n 3, 1) := by decide +kernel
theorem dL_law_840 : decode bL_law 840 = .ok (.iconst 0, 1) := by decide +kernel
theorem dL_law_841 : decode bL_law 841 = .ok (.laload, 1) := by decide +kernel
theorem dL_law_842 : decode bL_law 842 = .ok (.iload 6, 2) := by decide +kernel
theorem dL_law_844 : decode bL_law 844 = .ok (.i2l, 1) := by decide +kernel
theorem dL_law_845 : decode bL_law 845 = .ok (.lcmp, 1) := by decide +kernel
theorem dL_law_846 : decode bL_law 846 = .ok (.ifCond .eq 5, 3) := by decide +kernel
theorem dL_law_849 : decode bL_law 849 = .ok (.iconst 0, 1) := by decide +kernel
theorem dL_law_850 : decode bL_law 850 = .ok (.ireturn, 1) := by decide +kernel
theorem dL_law_851 : decode bL_law 851 = .ok (.goto 3, 3) := by decide +kernel
theorem dL_law_854 : decode bL_law 854 = .ok (.iinc 4 4, 3) := by decide +kernel
theorem dL_law_857 : decode bL_law 857 = .ok (.goto (-834), 3) := by decide +kernel
theorem dL_law_860 : decode bL_law 860 = .ok (.iconst 1, 1) := by decide +kernel
theorem dL_law_861 : decode bL_law 861 = .ok (.ireturn, 1) := by decide +kernel
theorem dL_make_0 : decode bL_make 0 = .ok (.aload_n 3, 1) := by decide +kernel
theorem dL_make_1 : decode bL_make 1 = .ok (.iconst 0, 1) := by decide +kernel
theorem dL_make_2 : decode bL_make 2 = .ok (.aload_n 0, 1) := by decide +kernel
theorem dL_make_3 : decode bL_make 3 = .ok (.iload_n 1, 1) := by decide +kernel
theorem dL_make_4 : decode bL_make 4 = .ok (.iload_n 2, 1) := by decide +kernel
theorem dL_make_5 : decode bL_make 5 = .ok (.invokevirtual 15, 3) := by decide +kernel
theorem dL_make_8 : decode bL_make 8 = .ok (.i2l, 1) := by decide +kernel
theorem dL_make_9 : decode bL_make 9 = .ok (.lastore, 1) := by decide +kernel
theorem dL_make_10 : decode bL_make 10 = .ok (.goto 7, 3) := by decide +kernel
theorem dL_make_13 : decode bL_make 13 = .ok (.astore 4, 2) := by decide +kernel
theorem dL_make_15 : decode bL_make 15 = .ok (.iconst 1, 1) := by decide +kernel
theorem dL_make_16 : decode bL_make 16 = .ok (.ireturn, 1) := by decide +kernel
theorem dL_make_17 : decode bL_make 17 = .ok (.iconst 0, 1) := by decide +kernel
theorem dL_make_18 : decode bL_make 18 = .ok (.ireturn, 1) := by decide +kernel
theorem dL_next_0 : decode bL_next 0 = .ok (.aload_n 2, 1) := by decide +kernel
theorem dL_next_1 : decode bL_next 1 = .ok (.iconst 0, 1) := by decide +kernel
theorem dL_next_2 : decode bL_next 2 = .ok (.aload_n 0, 1) := by decide +kernel
theorem dL_next_3 : decode bL_next 3 = .ok (.iload_n 1, 1) := by decide +kernel
theorem dL_next_4 : decode bL_next 4 = .ok (.invokevirtual 43, 3) := by decide +kernel
theorem dL_next_7 : decode bL_next 7 = .ok (.i2l, 1) := by decide +kernel
theorem dL_next_8 : decode bL_next 8 = .ok (.lastore, 1) := by decide +kernel
theorem dL_next_9 : decode bL_next 9 = .ok (.goto 6, 3) := by decide +kernel
theorem dL_next_12 : decode bL_next 12 = .ok (.astore_n 3, 1) := by decide +kernel
theorem dL_next_13 : decode bL_next 13 = .ok (.iconst 1, 1) := by decide +kernel
theorem dL_next_14 : decode bL_next 14 = .ok (.ireturn, 1) := by decide +kernel
theorem dL_next_15 : decode bL_next 15 = .ok (.iconst 0, 1) := by decide +kernel
theorem dL_next_16 : decode bL_next 16 = .ok (.ireturn, 1) := by decide +kernel
theorem dL_number_0 : decode bL_number 0 = .ok (.aload_n 2, 1) := by decide +kernel
theorem dL_number_1 : decode bL_number 1 = .ok (.iconst 0, 1) := by decide +kernel
theorem dL_number_2 : decode bL_number 2 = .ok (.aload_n 0, 1) := by decide +kernel
theorem dL_number_3 : decode bL_number 3 = .ok (.iload_n 1, 1) := by decide +kernel
theorem dL_number_4 : decode bL_number 4 = .ok (.invokevirtual 40, 3) := by decide +kernel
theorem dL_number_7 : decode bL_number 7 = .ok (.i2l, 1) := by decide +kernel
theorem dL_number_8 : decode bL_number 8 = .ok (.lastore, 1) := by decide +kernel
theorem dL_number_9 : decode bL_number 9 = .ok (.goto 6, 3) := by decide +kernel
theorem dL_number_12 : decode bL_number 12 = .ok (.astore_n 3, 1) := by decide +kernel
theorem dL_number_13 : decode bL_number 13 = .ok (.iconst 1, 1) := by decide +kernel
theorem dL_number_14 : decode bL_number 14 = .ok (.ireturn, 1) := by decide +kernel
theorem dL_number_15 : decode bL_number 15 = .ok (.iconst 0, 1) := by decide +kernel
theorem dL_number_16 : decode bL_number 16 = .ok (.ireturn, 1) := by decide +kernel
theorem dL_put_0 : decode bL_put 0 = .ok (.aload 4, 2) := by decide +kernel
theorem dL_put_2 : decode bL_put 2 = .ok (.iconst 0, 1) := by decide +kernel
theorem dL_put_3 : decode bL_put 3 = .ok (.aload_n 0, 1) := by decide +kernel
theorem dL_put_4 : decode bL_put 4 = .ok (.iload_n 1, 1) := by decide +kernel
theorem dL_put_5 : decode bL_put 5 = .ok (.iload_n 2, 1) := by decide +kernel
theorem dL_put_6 : decode bL_put 6 = .ok (.iload_n 3, 1) := by decide +kernel
theorem dL_put_7 : decode bL_put 7 = .ok (.invokevirtual 28, 3) := by decide +kernel
theorem dL_put_10 : decode bL_put 10 = .ok (.i2l, 1) := by decide +kernel
theorem dL_put_11 : decode bL_put 11 = .ok (.lastore, 1) := by decide +kernel
theorem dL_put_12 : decode bL_put 12 = .ok (.goto 7, 3) := by decide +kernel
theorem dL_put_15 : decode bL_put 15 = .ok (.astore 5, 2) := by decide +kernel
theorem dL_put_17 : decode bL_put 17 = .ok (.iconst 1, 1) := by decide +kernel
theorem dL_put_18 : decode bL_put 18 = .ok (.ireturn, 1) := by decide +kernel
theorem dL_put_19 : decode bL_put 19 = .ok (.iconst 0, 1) := by decide +kernel
theorem dL_put_20 : decode bL_put 20 = .ok (.ireturn, 1) := by decide +kernel
theorem dL_root_0 : decode bL_root 0 = .ok (.aload_n 3, 1) := by decide +kernel
theorem dL_root_1 : decode bL_root 1 = .ok (.iconst 0, 1) := by decide +kernel
theorem dL_root_2 : decode bL_root 2 = .ok (.aload_n 0, 1) := by decide +kernel
theorem dL_root_3 : decode bL_root 3 = .ok (.iload_n 1, 1) := by decide +kernel
theorem dL_root_4 : decode bL_root 4 = .ok (.iload_n 2, 1) := by decide +kernel
theorem dL_root_5 : decode bL_root 5 = .ok (.invokevirtual 34, 3) := by decide +kernel
theorem dL_root_8 : decode bL_root 8 = .ok (.i2l, 1) := by decide +kernel
theorem dL_root_9 : decode bL_root 9 = .ok (.lastore, 1) := by decide +kernel
theorem dL_root_10 : decode bL_root 10 = .ok (.goto 7, 3) := by decide +kernel
theorem dL_root_13 : decode bL_root 13 = .ok (.astore 4, 2) := by decide +kernel
theorem dL_root_15 : decode bL_root 15 = .ok (.iconst 1, 1) := by decide +kernel
theorem dL_root_16 : decode bL_root 16 = .ok (.ireturn, 1) := by decide +kernel
theorem dL_root_17 : decode bL_root 17 = .ok (.iconst 0, 1) := by decide +kernel
theorem dL_root_18 : decode bL_root 18 = .ok (.ireturn, 1) := by decide +kernel
theorem dL_rooted_0 : decode bL_rooted 0 = .ok (.aload_n 2, 1) := by decide +kernel
theorem dL_rooted_1 : decode bL_rooted 1 = .ok (.iconst 0, 1) := by decide +kernel
theorem dL_rooted_2 : decode bL_rooted 2 = .ok (.aload_n 0, 1) := by decide +kernel
theorem dL_rooted_3 : decode bL_rooted 3 = .ok (.iload_n 1, 1) := by decide +kernel
theorem dL_rooted_4 : decode bL_rooted 4 = .ok (.invokevirtual 37, 3) := by decide +kernel
theorem dL_rooted_7 : decode bL_rooted 7 = .ok (.i2l, 1) := by decide +kernel
theorem dL_rooted_8 : decode bL_rooted 8 = .ok (.lastore, 1) := by decide +kernel
theorem dL_rooted_9 : decode bL_rooted 9 = .ok (.goto 6, 3) := by decide +kernel
theorem dL_rooted_12 : decode bL_rooted 12 = .ok (.astore_n 3, 1) := by decide +kernel
theorem dL_rooted_13 : decode bL_rooted 13 = .ok (.iconst 1, 1) := by decide +kernel
theorem dL_rooted_14 : decode bL_rooted 14 = .ok (.ireturn, 1) := by decide +kernel
theorem dL_rooted_15 : decode bL_rooted 15 = .ok (.iconst 0, 1) := by decide +kernel
theorem dL_rooted_16 : decode bL_rooted 16 = .ok (.ireturn, 1) := by decide +kernel
theorem dL_set_0 : decode bL_set 0 = .ok (.aload 4, 2) := by decide +kernel
theorem dL_set_2 : decode bL_set 2 = .ok (.iconst 0, 1) := by decide +kernel
theorem dL_set_3 : decode bL_set 3 = .ok (.aload_n 0, 1) := by decide +kernel
theorem dL_set_4 : decode bL_set 4 = .ok (.iload_n 1, 1) := by decide +kernel
theorem dL_set_5 : decode bL_set 5 = .ok (.iload_n 2, 1) := by decide +kernel
theorem dL_set_6 : decode bL_set 6 = .ok (.iload_n 3, 1) := by decide +kernel
theorem dL_set_7 : decode bL_set 7 = .ok (.invokevirtual 19, 3) := by decide +kernel
theorem dL_set_10 : decode bL_set 10 = .ok (.i2l, 1) := by decide +kernel
theorem dL_set_11 : decode bL_set 11 = .ok (.lastore, 1) := by decide +kernel
theorem dL_set_12 : decode bL_set 12 = .ok (.goto 7, 3) := by decide +kernel
theorem dL_set_15 : decode bL_set 15 = .ok (.astore 5, 2) := by decide +kernel
theorem dL_set_17 : decode bL_set 17 = .ok (.iconst 1, 1) := by decide +kernel
theorem dL_set_18 : decode bL_set 18 = .ok (.ireturn, 1) := by decide +kernel
theorem dL_set_19 : decode bL_set 19 = .ok (.iconst 0, 1) := by decide +kernel
theorem dL_set_20 : decode bL_set 20 = .ok (.ireturn, 1) := by decide +kernel
theorem dL_space_0 : decode bL_space 0 = .ok (.aload_n 2, 1) := by decide +kernel
theorem dL_space_1 : decode bL_space 1 = .ok (.iconst 0, 1) := by decide +kernel
theorem dL_space_2 : decode bL_space 2 = .ok (.aload_n 0, 1) := by decide +kernel
theorem dL_space_3 : decode bL_space 3 = .ok (.iload_n 1, 1) := by decide +kernel
theorem dL_space_4 : decode bL_space 4 = .ok (.invokevirtual 7, 3) := by decide +kernel
theorem dL_space_7 : decode bL_space 7 = .ok (.i2l, 1) := by decide +kernel
theorem dL_space_8 : decode bL_space 8 = .ok (.lastore, 1) := by decide +kernel
theorem dL_space_9 : decode bL_space 9 = .ok (.goto 6, 3) := by decide +kernel
theorem dL_space_12 : decode bL_space 12 = .ok (.astore_n 3, 1) := by decide +kernel
theorem dL_space_13 : decode bL_space 13 = .ok (.iconst 1, 1) := by decide +kernel
theorem dL_space_14 : decode bL_space 14 = .ok (.ireturn, 1) := by decide +kernel
theorem dL_space_15 : decode bL_space 15 = .ok (.iconst 0, 1) := by decide +kernel
theorem dL_space_16 : decode bL_space 16 = .ok (.ireturn, 1) := by decide +kernel
theorem dL_word_0 : decode bL_word 0 = .ok (.aload_n 3, 1) := by decide +kernel
theorem dL_word_1 : decode bL_word 1 = .ok (.iconst 0, 1) := by decide +kernel
theorem dL_word_2 : decode bL_word 2 = .ok (.aload_n 0, 1) := by decide +kernel
theorem dL_word_3 : decode bL_word 3 = .ok (.iload_n 1, 1) := by decide +kernel
theorem dL_word_4 : decode bL_word 4 = .ok (.iload_n 2, 1) := by decide +kernel
theorem dL_word_5 : decode bL_word 5 = .ok (.invokevirtual 31, 3) := by decide +kernel
theorem dL_word_8 : decode bL_word 8 = .ok (.i2l, 1) := by decide +kernel
theorem dL_word_9 : decode bL_word 9 = .ok (.lastore, 1) := by decide +kernel
theorem dL_word_10 : decode bL_word 10 = .ok (.goto 7, 3) := by decide +kernel
theorem dL_word_13 : decode bL_word 13 = .ok (.astore 4, 2) := by decide +kernel
theorem dL_word_15 : decode bL_word 15 = .ok (.iconst 1, 1) := by decide +kernel
theorem dL_word_16 : decode bL_word 16 = .ok (.ireturn, 1) := by decide +kernel
theorem dL_word_17 : decode bL_word 17 = .ok (.iconst 0, 1) := by decide +kernel
theorem dL_word_18 : decode bL_word 18 = .ok (.ireturn, 1) := by decide +kernel
end
section
/-! CONTRACTS WHOSE END IS KNOWN: a world before, a world behind, an answer; one row a call -/
abbrev sy_in (D : va_G) (cl : List vw_C) (tys : List (ClassId × FieldType)) (ws : va_W) (sz : Nat) : State → Prop := fun U => U.heap.size = sz ∧ va_P D cl ws U.heap ∧ va_K D cl tys U ∧ va_D (fun _ => True) ws
abbrev sy_out (D : va_G) (cl : List vw_C) (tys : List (ClassId × FieldType)) (A : Nat → Prop) (ws : va_W) : State → Prop := fun t => va_P D cl ws t.heap ∧ va_K D cl tys t ∧ va_D A ws
abbrev sy_Mi (l : Launch) (y : MethodName) (wds : List Cond) (rm : Room) (D : va_G) (cl : List vw_C) (tys : List (ClassId × FieldType)) (av : List Value) (ws : va_W) (sz : Nat) (r : Int32) (ws' : va_W) (mc ms : Nat) : Prop :=
  Met l y wds rm (va_Pc av (sy_in D cl tys ws sz)) (va_Qi (fun r' (_ : Unit) => r' = r) (fun _ => sy_out D cl tys (va_A ws sz) ws') (va_A ws sz)) mc ms (va_A ws sz)
abbrev sy_Mv (l : Launch) (y : MethodName) (wds : List Cond) (rm : Room) (D : va_G) (cl : List vw_C) (tys : List (ClassId × FieldType)) (av : List Value) (ws : va_W) (sz : Nat) (ws' : va_W) (mc ms : Nat) : Prop :=
  Met l y wds rm (va_Pc av (sy_in D cl tys ws sz)) (va_Qv (fun (_ : Unit) => True) (fun _ => sy_out D cl tys (va_A ws sz) ws') (va_A ws sz)) mc ms (va_A ws sz)
theorem sy_blind {D : va_G} {cl : List vw_C} {tys : List (ClassId × FieldType)} {av : List Value} {ws : va_W} {sz : Nat} : FrameBlind (va_Pc av (sy_in D cl tys ws sz)) := fun a U g mk q => by
  obtain ⟨q0, q1, qP, qK, qD⟩ := q
  exact ⟨q0, q1, qP, va_K.moved (u := U) (U := U.calling g mk a) (Vm.Alike.refl U.vm) qK, qD⟩
section SC
variable {p : Program} {l : Launch} {e : Env} {R : Room} {s : State} {m : MethodId} {args : Array Value} {below : List Frame} {meth : Method} {c : Code} {H : Heap} {locs : List Loc} {cells slots : Nat} {Q : State → Prop}
variable {y : MethodName} {bytes cc : ByteArray} {maxL nL mc ms n index pc : Nat} {ret : Option FieldType} {wds : List Cond} {rm : Room} {Ts : List Cond} {own C : String} {b : Addr} {As rest st0 : List Value} {ls : Array Slot}
variable {D : va_G} {cl : List vw_C} {tys tys0 : List (ClassId × FieldType)} {A : Nat → Prop} {H0 : Heap} {ws wc wr w1 : va_W} {r : Int32} {q0 ci N : Nat} {T : u_T} {fs : List Value}
/-- the callee's cells stand in the caller's world at the places isC, the rest at isR -/
theorem sy_cVi (S : CallFix p m c cc nL s args Ts own) (hM : sy_Mi l y wds rm D cl tys0 (.ref b :: As) wc H.size r w1 mc ms) (cw : CallW R s args own C index y bytes maxL ret wds rm mc ms n)
    (hK : va_K D cl tys s) (tks : List Nat) (htk : tks.filterMap (fun i => tys[i]?) = tys0) (hP : va_P D cl ws H) (hD : va_D A ws) (hS : va_S A H0 H locs) (hA : ∀ q, H0.size ≤ q → A q)
    (isC isR : List Nat) (hC : isC.map (fun i => ws[i]?) = wc.map some) (hR : isR.map (fun i => ws[i]?) = wr.map some) (hnC : va_nd isC = true) (hnR : va_nd isR = true) (hdis : ∀ i ∈ isR, i ∉ isC)
    (hc : cl[ci]? = some (C, T, N)) (he : wc[q0]? = some (b, .inr (ci, fs)))
    (hn : As.length = n) (hsize : ls.size = nL) (hstack : st0 = As.reverse ++ .ref b :: rest) (hW : (rest.map fun v => v.category).sum ≤ 8) (hdg : decode cc pc = .ok (.invokevirtual index, 3)) (hf : cells + mc ≤ R.cells ∧ slots + ms ≤ R.slots)
    (kk : ∀ (H1 : Heap) (locs1 : List Loc), va_P D cl (wr ++ w1) H1 → va_D A (wr ++ w1) → va_S A H0 H1 locs1 → W p l e R s m args below meth c H1 locs1 (cells + mc) (slots + ms) Q (F0 m (pc + 3) ls (.int r :: rest))) :
    W p l e R s m args below meth c H locs cells slots Q (F0 m pc ls st0) := by
  have hPc : va_P D cl wc H := fun k q hk => by
    have h1 : (isC.map (fun i => ws[i]?))[k]? = some (some q) := by rw [hC, List.getElem?_map, hk]; rfl
    rw [List.getElem?_map] at h1
    cases hi : isC[k]? with
    | none => rw [hi] at h1; cases h1
    | some i => rw [hi] at h1; exact hP i q (Option.some.inj h1)
  have hDc : va_D A wc := hD.sub isC hnC hC
  have hKc : va_K D cl tys0 s := hK.sub tks htk
  have hFc := va_free (wc := wc) hD hS hA isC hC
  refine va_calli (va_runV (As := As) (rest := rest) S hM cw ⟨sy_blind, va_recv hKc hPc hc he, fun U hU hWm => ⟨rfl, by rw [hU], by rw [hU]; exact hPc, va_K.moved hWm.alike hKc, hDc.weaken (fun _ _ _ _ => trivial)⟩⟩ rfl hn hsize hstack (lv_room hW) hdg hf) hS (fun q _ h => hFc q h) hFc (fun r' u t H1 locs1 ht hvm hw hB hz1 hk1 hS1 => ?_)
  subst hw
  obtain ⟨hP1, -, hD1⟩ := hB
  rw [ht] at hP1
  obtain ⟨hP2, hD2⟩ := va_join hP hD isC isR hC hR hnR hdis hk1 hFc hP1 hD1
  exact kk H1 locs1 hP2 hD2 hS1
theorem sy_cVv (S : CallFix p m c cc nL s args Ts own) (hM : sy_Mv l y wds rm D cl tys0 (.ref b :: As) wc H.size w1 mc ms) (cw : CallW R s args own C index y bytes maxL ret wds rm mc ms n)
    (hK : va_K D cl tys s) (tks : List Nat) (htk : tks.filterMap (fun i => tys[i]?) = tys0) (hP : va_P D cl ws H) (hD : va_D A ws) (hS : va_S A H0 H locs) (hA : ∀ q, H0.size ≤ q → A q)
    (isC isR : List Nat) (hC : isC.map (fun i => ws[i]?) = wc.map some) (hR : isR.map (fun i => ws[i]?) = wr.map some) (hnC : va_nd isC = true) (hnR : va_nd isR = true) (hdis : ∀ i ∈ isR, i ∉ isC)
    (hc : cl[ci]? = some (C, T, N)) (he : wc[q0]? = some (b, .inr (ci, fs)))
    (hn : As.length = n) (hsize : ls.size = nL) (hstack : st0 = As.reverse ++ .ref b :: rest) (hW : (rest.map fun v => v.category).sum ≤ 8) (hdg : decode cc pc = .ok (.invokevirtual index, 3)) (hf : cells + mc ≤ R.cells ∧ slots + ms ≤ R.slots)
    (kk : ∀ (H1 : Heap) (locs1 : List Loc), va_P D cl (wr ++ w1) H1 → va_D A (wr ++ w1) → va_S A H0 H1 locs1 → W p l e R s m args below meth c H1 locs1 (cells + mc) (slots + ms) Q (F0 m (pc + 3) ls rest)) :
    W p l e R s m args below meth c H locs cells slots Q (F0 m pc ls st0) := by
  have hPc : va_P D cl wc H := fun k q hk => by
    have h1 : (isC.map (fun i => ws[i]?))[k]? = some (some q) := by rw [hC, List.getElem?_map, hk]; rfl
    rw [List.getElem?_map] at h1
    cases hi : isC[k]? with
    | none => rw [hi] at h1; cases h1
    | some i => rw [hi] at h1; exact hP i q (Option.some.inj h1)
  have hDc : va_D A wc := hD.sub isC hnC hC
  have hKc : va_K D cl tys0 s := hK.sub tks htk
  have hFc := va_free (wc := wc) hD hS hA isC hC
  refine va_callv (va_runV (As := As) (rest := rest) S hM cw ⟨sy_blind, va_recv hKc hPc hc he, fun U hU hWm => ⟨rfl, by rw [hU], by rw [hU]; exact hPc, va_K.moved hWm.alike hKc, hDc.weaken (fun _ _ _ _ => trivial)⟩⟩ rfl hn hsize hstack (lv_room hW) hdg hf) hS (fun q _ h => hFc q h) hFc (fun u t H1 locs1 ht hvm hw hB hz1 hk1 hS1 => ?_)
  obtain ⟨hP1, -, hD1⟩ := hB
  rw [ht] at hP1
  obtain ⟨hP2, hD2⟩ := va_join hP hD isC isR hC hR hnR hdis hk1 hFc hP1 hD1
  exact kk H1 locs1 hP2 hD2 hS1
theorem sy_cSi (S : CallFix p m c cc nL s args Ts own) (hM : sy_Mi l y wds rm D cl tys0 As wc H.size r w1 mc ms) (cw : CallB R s args own index y bytes maxL ret wds rm mc ms n ∧ (Cond.static y).before args s = true)
    (hK : va_K D cl tys s) (tks : List Nat) (htk : tks.filterMap (fun i => tys[i]?) = tys0) (hP : va_P D cl ws H) (hD : va_D A ws) (hS : va_S A H0 H locs) (hA : ∀ q, H0.size ≤ q → A q)
    (isC isR : List Nat) (hC : isC.map (fun i => ws[i]?) = wc.map some) (hR : isR.map (fun i => ws[i]?) = wr.map some) (hnC : va_nd isC = true) (hnR : va_nd isR = true) (hdis : ∀ i ∈ isR, i ∉ isC)
    (hn : As.length = n) (hsize : ls.size = nL) (hstack : st0 = As.reverse ++ rest) (hW : (rest.map fun v => v.category).sum ≤ 8) (hdg : decode cc pc = .ok (.invokestatic index, 3)) (hf : cells + mc ≤ R.cells ∧ slots + ms ≤ R.slots)
    (kk : ∀ (H1 : Heap) (locs1 : List Loc), va_P D cl (wr ++ w1) H1 → va_D A (wr ++ w1) → va_S A H0 H1 locs1 → W p l e R s m args below meth c H1 locs1 (cells + mc) (slots + ms) Q (F0 m (pc + 3) ls (.int r :: rest))) :
    W p l e R s m args below meth c H locs cells slots Q (F0 m pc ls st0) := by
  have hPc : va_P D cl wc H := fun k q hk => by
    have h1 : (isC.map (fun i => ws[i]?))[k]? = some (some q) := by rw [hC, List.getElem?_map, hk]; rfl
    rw [List.getElem?_map] at h1
    cases hi : isC[k]? with
    | none => rw [hi] at h1; cases h1
    | some i => rw [hi] at h1; exact hP i q (Option.some.inj h1)
  have hDc : va_D A wc := hD.sub isC hnC hC
  have hKc : va_K D cl tys0 s := hK.sub tks htk
  have hFc := va_free (wc := wc) hD hS hA isC hC
  refine va_calli (va_runS (As := As) (rest := rest) S hM cw ⟨sy_blind, fun U hU hWm => ⟨rfl, by rw [hU], by rw [hU]; exact hPc, va_K.moved hWm.alike hKc, hDc.weaken (fun _ _ _ _ => trivial)⟩⟩ rfl hn hsize hstack (lv_room hW) hdg hf) hS (fun q _ h => hFc q h) hFc (fun r' u t H1 locs1 ht hvm hw hB hz1 hk1 hS1 => ?_)
  subst hw
  obtain ⟨hP1, -, hD1⟩ := hB
  rw [ht] at hP1
  obtain ⟨hP2, hD2⟩ := va_join hP hD isC isR hC hR hnR hdis hk1 hFc hP1 hD1
  exact kk H1 locs1 hP2 hD2 hS1
theorem sy_cSv (S : CallFix p m c cc nL s args Ts own) (hM : sy_Mv l y wds rm D cl tys0 As wc H.size w1 mc ms) (cw : CallB R s args own index y bytes maxL ret wds rm mc ms n ∧ (Cond.static y).before args s = true)
    (hK : va_K D cl tys s) (tks : List Nat) (htk : tks.filterMap (fun i => tys[i]?) = tys0) (hP : va_P D cl ws H) (hD : va_D A ws) (hS : va_S A H0 H locs) (hA : ∀ q, H0.size ≤ q → A q)
    (isC isR : List Nat) (hC : isC.map (fun i => ws[i]?) = wc.map some) (hR : isR.map (fun i => ws[i]?) = wr.map some) (hnC : va_nd isC = true) (hnR : va_nd isR = true) (hdis : ∀ i ∈ isR, i ∉ isC)
    (hn : As.length = n) (hsize : ls.size = nL) (hstack : st0 = As.reverse ++ rest) (hW : (rest.map fun v => v.category).sum ≤ 8) (hdg : decode cc pc = .ok (.invokestatic index, 3)) (hf : cells + mc ≤ R.cells ∧ slots + ms ≤ R.slots)
    (kk : ∀ (H1 : Heap) (locs1 : List Loc), va_P D cl (wr ++ w1) H1 → va_D A (wr ++ w1) → va_S A H0 H1 locs1 → W p l e R s m args below meth c H1 locs1 (cells + mc) (slots + ms) Q (F0 m (pc + 3) ls rest)) :
    W p l e R s m args below meth c H locs cells slots Q (F0 m pc ls st0) := by
  have hPc : va_P D cl wc H := fun k q hk => by
    have h1 : (isC.map (fun i => ws[i]?))[k]? = some (some q) := by rw [hC, List.getElem?_map, hk]; rfl
    rw [List.getElem?_map] at h1
    cases hi : isC[k]? with
    | none => rw [hi] at h1; cases h1
    | some i => rw [hi] at h1; exact hP i q (Option.some.inj h1)
  have hDc : va_D A wc := hD.sub isC hnC hC
  have hKc : va_K D cl tys0 s := hK.sub tks htk
  have hFc := va_free (wc := wc) hD hS hA isC hC
  refine va_callv (va_runS (As := As) (rest := rest) S hM cw ⟨sy_blind, fun U hU hWm => ⟨rfl, by rw [hU], by rw [hU]; exact hPc, va_K.moved hWm.alike hKc, hDc.weaken (fun _ _ _ _ => trivial)⟩⟩ rfl hn hsize hstack (lv_room hW) hdg hf) hS (fun q _ h => hFc q h) hFc (fun u t H1 locs1 ht hvm hw hB hz1 hk1 hS1 => ?_)
  obtain ⟨hP1, -, hD1⟩ := hB
  rw [ht] at hP1
  obtain ⟨hP2, hD2⟩ := va_join hP hD isC isR hC hR hnR hdis hk1 hFc hP1 hD1
  exact kk H1 locs1 hP2 hD2 hS1
/-- reads and writes of an int array at a place that is a natural number -/
theorem sy_iald {a : Nat} (hexec : p.tables.exec = Jvm.exec) (hb : c.code = cc) (hK : va_K D cl tys s) (hP : va_P D cl ws H) (q0 t0 : Nat) {cA : ClassId} {n : Nat} {f : Nat → Int32} (ha : ws[q0]? = some (a, .inl (cA, n, .inl f))) (ht : tys[t0]? = some (cA, .int)) {j : Nat} (hj : j < n) (hn : n < 2 ^ 31) (hdg : decode cc pc = .ok (.iaload, 1))
    (kk : W p l e R s m args below meth c H locs cells slots Q (F0 m (pc + 1) ls (.int (f j) :: rest))) : W p l e R s m args below meth c H locs cells slots Q (F0 m pc ls (.int (nI j) :: .ref a :: rest)) := by
  refine va_iald hexec hb hK hP q0 t0 ha ht (vp_in_nI hj hn) hdg ?_
  rw [nI_clamp (by omega)]
  exact kk
theorem sy_zald {a : Nat} (hexec : p.tables.exec = Jvm.exec) (hb : c.code = cc) (hK : va_K D cl tys s) (hP : va_P D cl ws H) (q0 t0 : Nat) {cA : ClassId} {n : Nat} {f : Nat → Int32} (ha : ws[q0]? = some (a, .inl (cA, n, .inl f))) (ht : tys[t0]? = some (cA, .boolean)) {j : Nat} (hj : j < n) (hn : n < 2 ^ 31) (hdg : decode cc pc = .ok (.baload, 1))
    (kk : W p l e R s m args below meth c H locs cells slots Q (F0 m (pc + 1) ls (.int (f j) :: rest))) : W p l e R s m args below meth c H locs cells slots Q (F0 m pc ls (.int (nI j) :: .ref a :: rest)) := by
  refine va_zald hexec hb hK hP q0 t0 ha ht (vp_in_nI hj hn) hdg ?_
  rw [nI_clamp (by omega)]
  exact kk
theorem sy_iast {a : Nat} (hexec : p.tables.exec = Jvm.exec) (hb : c.code = cc) (hK : va_K D cl tys s) (hP : va_P D cl ws H) (hD : va_D A ws) (hS : va_S A H0 H locs) (q0 t0 : Nat) {cA : ClassId} {n : Nat} {f : Nat → Int32} (ha : ws[q0]? = some (a, .inl (cA, n, .inl f))) (ht : tys[t0]? = some (cA, .int)) {j : Nat} {x : Int32} (hj : j < n) (hn : n < 2 ^ 31) (hdg : decode cc pc = .ok (.iastore, 1))
    (kk : ∀ (H1 : Heap) (locs1 : List Loc), va_P D cl (ws.set q0 (a, .inl (cA, n, .inl (upd f j x)))) H1 → va_D A (ws.set q0 (a, .inl (cA, n, .inl (upd f j x)))) → va_S A H0 H1 locs1 → W p l e R s m args below meth c H1 locs1 cells slots Q (F0 m (pc + 1) ls rest)) : W p l e R s m args below meth c H locs cells slots Q (F0 m pc ls (.int x :: .int (nI j) :: .ref a :: rest)) := by
  refine va_iast hexec hb hK hP hD hS q0 t0 ha ht (vp_in_nI hj hn) hdg ?_
  rw [nI_clamp (by omega)]
  exact kk
theorem sy_zast {a : Nat} (hexec : p.tables.exec = Jvm.exec) (hb : c.code = cc) (hK : va_K D cl tys s) (hP : va_P D cl ws H) (hD : va_D A ws) (hS : va_S A H0 H locs) (q0 t0 : Nat) {cA : ClassId} {n : Nat} {f : Nat → Int32} (ha : ws[q0]? = some (a, .inl (cA, n, .inl f))) (ht : tys[t0]? = some (cA, .boolean)) {j : Nat} {x : Int32} (hx0 : vp_nar .boolean x = x) (hj : j < n) (hn : n < 2 ^ 31) (hdg : decode cc pc = .ok (.bastore, 1))
    (kk : ∀ (H1 : Heap) (locs1 : List Loc), va_P D cl (ws.set q0 (a, .inl (cA, n, .inl (upd f j x)))) H1 → va_D A (ws.set q0 (a, .inl (cA, n, .inl (upd f j x)))) → va_S A H0 H1 locs1 → W p l e R s m args below meth c H1 locs1 cells slots Q (F0 m (pc + 1) ls rest)) : W p l e R s m args below meth c H locs cells slots Q (F0 m pc ls (.int x :: .int (nI j) :: .ref a :: rest)) := by
  refine va_zast hexec hb hK hP hD hS q0 t0 ha ht (vp_in_nI hj hn) hdg ?_
  rw [nI_clamp (by omega), hx0]
  exact kk
end SC
end
section
/-! A THROW OF AN EXCEPTION WHOSE OWN CONSTRUCTOR LINKS TO ITS SUPERCLASS'S BY ANY ENTRY (java/util/NoSuchElementException's is 13; the library's chain asks 7 all the way down): its own pass apart, the chain from the superclass on -/
def sx_tail (own : String) (ic : Nat) (X : String) : List Cond :=
  [.methodLink own ic (Bundle.initS X), .instantiable X 6, .selects X Bundle.tFill0 Bundle.tFill0, .selects X Bundle.tFill Bundle.tFill,
   .lays X Bundle.tN "cause" "Ljava/lang/Throwable;", .lays X Bundle.tN "stackTrace" Bundle.steD, .lays X Bundle.tN "suppressedExceptions" Bundle.listD, .lays X Bundle.tN "detailMessage" "Ljava/lang/String;",
   .fieldLink Bundle.tN 198 Bundle.tN "backtrace" "Ljava/lang/Object;", .lays Bundle.tN Bundle.tN "backtrace" "Ljava/lang/Object;", .lays X Bundle.tN "backtrace" "Ljava/lang/Object;"]
def sx_own (own : String) (ic : Nat) (X Y : String) (i1 : Nat) (b1 : ByteArray) (names : List String) : List Cond :=
  Bundle.throwableAtoms ++ Bundle.throwableSAtoms ++ Bundle.passSAtoms X Y i1 b1 ++ Bundle.chainSAtoms Y names ++ sx_tail own ic X
section CT
variable {p : Program} {l : Launch} {e : Env} {R : Room} {s : State} {m₀ : MethodId} {args : Array Value} {below : List Frame} {meth : Method} {c : Code} {V : State} {locs : List Loc} {cells slots : Nat}
set_option maxHeartbeats 4000000 in
theorem sx_ctor (X : Stand p l e R s m₀ args below meth c V locs cells slots) (hexec : p.tables.exec = Jvm.exec) (htr : e.platform.stackTraces = false) {own cls Y : String} {names : List String} {ic i1 : Nat} {b1 : ByteArray}
    (hown : s.vm.findClass own = some m₀.cls) (hcls : Bundle.fit cls = true) (hY : Bundle.fit Y = true) (hnames : ∀ n ∈ names, Bundle.fit n = true)
    (g0 : decode b1 0 = .ok (.aload_n 0, 1)) (g1 : decode b1 1 = .ok (.aload_n 1, 1)) (g2 : decode b1 2 = .ok (.invokespecial i1, 3)) (g5 : decode b1 5 = .ok (.return_, 1))
    (h : ∀ a ∈ sx_own own ic cls Y i1 b1 names, a.before args s = true)
    (hU : (Cond.isRef (.static Bundle.tN "UNASSIGNED_STACK" Bundle.steD)).before args s = true) (hN : (Cond.isRef (.static Bundle.tN "SUPPRESSED_SENTINEL" Bundle.listD)).before args s = true)
    (hlocs : ∀ x ∈ locs, ∀ cell, s.heap[x.base]? = some cell → cell.vm.isStatics = false)
    {a : Addr} {cX : ClassId} {kX : Class} (hfoundX : s.vm.findClass cls = some cX) (hkX : s.vm.classes[cX]? = some kX) (hcell : V.heap[a]? = some (freshCell cX kX)) (hnew : s.heap.size ≤ a)
    {msg : Value} (hmsg : msg.isRef = true)
    {g : JFrame} (hg : g.method = m₀) (hsize : g.locals.size = c.maxLocals) (hlocked : g.locked = none) (hentered : g.entered = []) {rest : List Value} (hstack : g.stack = msg :: .ref a :: .ref a :: rest)
    (hd6 : decode c.code g.pc = .ok (.invokespecial ic, 3)) (hd9 : decode c.code (g.pc + 3) = .ok (.athrow, 1)) (hout : ∀ x ∈ c.exceptionTable.toList, covers x (g.pc + 3) = false)
    (hRframes : names.length + 4 < R.frames) (hRlocals : 2 * g.monitorRoom + ((Value.ref a :: rest).map fun v => v.category).sum + (13 * (names.length + 2) + 42) ≤ R.locals) (hlocks : meth.locks = false) :
    ∃ U : State, Steps p.tables e below (V.setTop g) U ∧ U.status = .running ∧ Ended U below (.threw a) ∧ s.WarmedH U.vm ∧ s.sameButNew ({ U with vm := s.vm } : State) locs cells slots ∧
      ∃ ce, U.heap[a]? = some ce ∧ ce.vm = .none ∧ s.vm.findClass cls = some ce.cls := by
  have howns : e.platform.frameOwnsMonitors = true := by rw [X.admits.platform]
  have hfin : e.platform.finalization = false := by rw [X.admits.platform]
  have hpl : e.platform.magicAccessors = ({} : Platform).magicAccessors := by rw [X.admits.platform]
  have tl : ∀ x, x ∈ sx_tail own ic cls → x.before args s = true := fun x hx => h x (List.mem_append_right _ hx)
  have a' : ∀ x, x ∈ sx_tail own ic cls → x.holds args s none s [] = true := fun x hx => tl x hx
  obtain ⟨T, Z0, L, -, Yt⟩ := ThrowableC.of_atoms (args := args) howns hfin hpl (fun x hx => h x (by simp [sx_own, hx]))
  obtain ⟨Z, M, LZ, LM, hnZ⟩ := Init0T.ofS_atoms (args := args) hpl L Yt (fun x hx => h x (by simp [sx_own, hx]))
  obtain ⟨P2, Ps, hlen, L2, hL, hP2m, hlink2, hlink⟩ := Bundle.chainS (args := args) hpl hnZ names Y hY hnames (fun x hx => h x (by simp [sx_own, hx]))
  obtain ⟨P1, L1, hP1m, hP1s⟩ := PassC.ofS_atoms (args := args) (s := s) hpl (X := cls) (Y := Y) (Bundle.fit_spec hcls).1 (Bundle.fit_spec hY).2 g0 g1 g2 g5 (fun x hx => h x (by simp [sx_own, hx]))
  have hlink1 : P1.sup = P2.m := Option.some.inj (hP1s.symm.trans hP2m)
  have hfound : s.vm.findClass cls = some P1.m.cls := findClass_of_methodNamed hP1m
  cases Option.some.inj (hfoundX.symm.trans hfound)
  obtain ⟨c1, kX', hc1, hk, hord, -, -, hn6⟩ := Cond.instantiable_spec (a' (.instantiable cls 6) (by simp [sx_tail]))
  cases Option.some.inj (hc1.symm.trans hfound)
  cases Option.some.inj (hkX.symm.trans hk)
  have sel : ∀ (y : MethodName) (k : MethodId), Cond.selects cls y y ∈ sx_tail own ic cls → s.methodNamed? y = some k → y.cls ≠ "java/lang/invoke/MethodHandle" ∧ y.cls ≠ "java/lang/invoke/VarHandle" → selectMethod e.platform s.vm P1.m.cls k = .method k := fun y k hy hk hn => by
    obtain ⟨c2, r2, m2, q1, q2, q3, q4, -⟩ := Cond.selects_spec (a' _ hy)
    cases Option.some.inj (q1.symm.trans hfound)
    cases Option.some.inj (q2.symm.trans (State.methodFound?_of_named hk hn))
    cases Option.some.inj (q3.symm.trans hk)
    rw [Launch.admits_selectMethod X.admits]; exact q4
  have hsel0 := sel Bundle.tFill0 T.fill0 (by simp [sx_tail]) Yt.fill0 (by decide)
  have hselF := sel Bundle.tFill T.fill (by simp [sx_tail]) Yt.fill (by decide)
  obtain ⟨cellS0, hcS0, hiss⟩ := Yt.statics
  obtain ⟨u0, hu0⟩ := Cond.staticRefV Yt.unassigned L.unassignedStatic L.statics hcS0 hiss hU
  obtain ⟨sen, hsen⟩ := Cond.staticRefV Yt.sentinel L.sentinelStatic L.statics hcS0 hiss hN
  obtain ⟨ci198, i198, fB, hk198, hg198, ha198, hsB, -, hnB, htB, hffB⟩ := Cond.ownField (t := .object "java/lang/Object") Yt.found L.cls (by decide +kernel) (a' (.fieldLink Bundle.tN 198 Bundle.tN "backtrace" "Ljava/lang/Object;") (by simp [sx_tail])) (a' (.lays Bundle.tN Bundle.tN "backtrace" "Ljava/lang/Object;") (by simp [sx_tail])) e.platform hpl
  obtain ⟨cellS, hcS', heS, -, hkeep⟩ := X.same.2.2.2.2.2 T.aS cellS0 hcS0
  have hcellS : V.heap[T.aS]? = some cellS := hcS'
  have hout' : ∀ i, (⟨T.aS, i⟩ : Loc) ∉ locs := fun i hmem => by
    have := hlocs _ hmem cellS0 hcS0
    rw [hiss] at this; cases this
  have hknownS : cellS.vm ≠ .unknown := by
    rw [heS]; intro hu
    rw [show cellS0.vm = .unknown from hu] at hiss
    cases hiss
  have hneS : T.aS ≠ a := Nat.ne_of_lt (Nat.lt_of_lt_of_le (Array.getElem?_eq_some_iff.mp hcS0).1 hnew)
  obtain ⟨iM, hffM⟩ := Yt.msg
  obtain ⟨tyC, dC, hdC, hdnC⟩ := Cond.laysAt hfound hk Yt.cause (a' (.lays cls Bundle.tN "cause" "Ljava/lang/Throwable;") (by simp [sx_tail]))
  obtain ⟨tyS, dS, hdS, hdnS⟩ := Cond.laysAt hfound hk Yt.stack (a' (.lays cls Bundle.tN "stackTrace" Bundle.steD) (by simp [sx_tail]))
  obtain ⟨tyP, dP, hdP, hdnP⟩ := Cond.laysAt hfound hk Yt.supp (a' (.lays cls Bundle.tN "suppressedExceptions" Bundle.listD) (by simp [sx_tail]))
  obtain ⟨tyM, dM, hdM, hdnM⟩ := Cond.laysAt hfound hk hffM (a' (.lays cls Bundle.tN "detailMessage" "Ljava/lang/String;") (by simp [sx_tail]))
  obtain ⟨tyB, dB, hdB, hdnB⟩ := Cond.laysAt hfound hk hffB (a' (.lays cls Bundle.tN "backtrace" "Ljava/lang/Object;") (by simp [sx_tail]))
  have bC := Cond.laysApart hdB hdC hdnB hdnC (by rw [hnB, Yt.causeName]; decide)
  have bS := Cond.laysApart hdB hdS hdnB hdnS (by rw [hnB, Yt.stackName]; decide)
  have bP := Cond.laysApart hdB hdP hdnB hdnP (by rw [hnB, Yt.suppName]; decide)
  have hskip : SkipFacts T e.platform s (fun u => u) u0 ((preparedCellV T.toThrowableT (freshCell P1.m.cls kX) a u0 sen).withEntry V.cur) :=
    ⟨{ ci198 := ci198, i198 := i198, fBack := fB }, ⟨hk198, hg198, ha198, hsB⟩, by
      have := fresh_default (c := P1.m.cls) tyB
      rw [htB] at this
      simpa [preparedCellV, Cell.setSlot, Cell.withEntry, Array.getElem?_setIfInBounds, bC, bS, bP, bC.symm, bS.symm, bP.symm, defaultValue] using this, fun _ _ => rfl⟩
  have hpa : ∀ x, x ∈ Bundle.passSAtoms cls Y i1 b1 → x.before args s = true := fun x hx => h x (by simp [sx_own, hx])
  obtain ⟨tm, methC, cdC, kC, vm₁, hnC, -, -, -, -, -, -, -, hW₁, st1⟩ := Steps.initColdS (tb := p.tables) (e := e) (below := below) (s := s) (U := V) X.here hexec X.warmed hpl hown (t := Bundle.initS cls) rfl rfl (Bundle.fit_spec hcls).2
    (tl (.methodLink own ic (Bundle.initS cls)) (by simp [sx_tail])) (hpa (.instanceMethod (Bundle.initS cls)) (by simp [Bundle.passSAtoms])) (bytes := b1) (maxL := 2) (hpa (.code (Bundle.initS cls) b1 2 none) (by simp [Bundle.passSAtoms]))
    (f := g) hg (a := a) (msg := msg) (rest := .ref a :: rest) hstack hd6
  cases Option.some.inj (hnC.symm.trans hP1m)
  have X₁ := X.noted hW₁
  obtain ⟨vm₂, X₂, st2⟩ := X₁.ctorMessageOffV hexec (g := { g with stack := .ref a :: rest }) hg hsize T L Z LZ M LM (P1 :: P2 :: Ps)
    (fun P hP => by
      rcases List.mem_cons.mp hP with rfl | hP
      · exact L1
      · rcases List.mem_cons.mp hP with rfl | hP
        · exact L2
        · exact hL P hP) ⟨hlink1, hlink2, hlink⟩ (u0 := u0) (sen := sen) (self := a) hmsg (cell := freshCell P1.m.cls kX) (cellS := cellS)
    hcell (fun _ => by simp) (by simp) rfl rfl hsel0 hselF hcellS hneS hknownS (by rw [hkeep _ (hout' _)]; exact hu0) (by rw [hkeep _ (hout' _)]; exact hsen)
    (Takes.of_laid hk hord tyC (by rw [Yt.causeType]; rfl)) (Takes.of_laid hk hord tyS (by rw [Yt.stackType]; exact fits_refV_array _ u0)) (Takes.of_laid hk hord tyP (by rw [Yt.suppType]; exact fits_refV_object _ sen))
    (Takes.of_laid hk hord tyM (by rw [Yt.msgType]; exact fits_refV_object _ ⟨msg, hmsg⟩)) Yt.objLocals hskip htr [] hd6
    (by simp only [List.length_cons, hlen]; omega) (by simp only [List.length_cons, hlen]; exact hRlocals)
  obtain ⟨hwalk, hrun, hended, hWU, hsame⟩ := X₂.athrowLeaves hexec (g := { g with stack := .ref a :: rest, pc := g.pc + 3 }) hg hlocked hentered hout (a := a) (rest := rest) rfl hd9 hlocks
  have hlt : a < ((V.setVm vm₁).setVm vm₂).heap.size := (Array.getElem?_eq_some_iff.mp hcell).1
  have hUc := heapAt_setCell_self (s := (V.setVm vm₁).setVm vm₂) (plainBareV T.toThrowableT (freshCell P1.m.cls kX) a u0 sen msg) hlt
  refine ⟨_, st1 _ (fun acts => ?_), hrun, hended, hWU, hsame.weaken (fun y hy hlt' => ?_) (Nat.le_refl _) (Nat.le_refl _), _, hUc, rfl, hfound⟩
  · rw [doInvoke_state]
    exact st2 _ hwalk
  · rcases List.mem_append.mp hy with h1 | h1
    · exact h1
    · exfalso
      have hb : y.base = a := by
        simp only [List.mem_cons, List.not_mem_nil, or_false] at h1
        rcases h1 with rfl | rfl | rfl | rfl | rfl <;> rfl
      rw [hb] at hlt'
      exact Nat.not_lt.mpr hnew hlt'
end CT
end
section
/-! THROWING, AS THE CLASS DOES IT: what a throw stands on, carried through the calls; one row a throw, one row a call that throws -/
abbrev sx_RE : String := "java/lang/RuntimeException"
def sx_NS : List String := ["java/lang/Exception"]
abbrev sx_IAE : String := "java/lang/IllegalArgumentException"
abbrev sx_NSE : String := "java/util/NoSuchElementException"
def sx_LI : List Cond := (sx_own RX 24 sx_IAE sx_RE 7 prog_5_method_2_code sx_NS).filter vx_no
def sx_LN : List Cond := (sx_own RX 116 sx_NSE sx_RE 13 prog_11_method_4_code sx_NS).filter vx_no
def sx_L : List Cond := sx_LI ++ sx_LN
theorem sx_L_on : ∀ w ∈ sx_L, w.onTables = true := by decide +kernel
theorem sx_L_wb : ∀ w ∈ sx_L, w.warmB [] = true := by decide +kernel
set_option maxRecDepth 20000 in
theorem sx_L_in : ∀ w ∈ sx_L, w ∈ lw_tbl := by decide +kernel
def sx_Ok (U : State) : Prop := ∀ w ∈ sx_L, w.before #[] U = true
theorem sx_any {w : Cond} {a a' : Array Value} {U : State} (hw : w.onTables = true) (h : w.before a U = true) : w.before a' U = true := by
  have e := Cond.onTables_vm (A := a) (A' := a') (U := U) (U' := U) U.vm w hw
  rw [State.setVm_self] at e
  rw [← e]; exact h
theorem sx_Ok.warm {s U : State} (h : sx_Ok s) (hW : s.WarmedH U.vm) : sx_Ok U := fun w hw => by
  have h1 := Cond.before_warmed (args := #[]) hW w (Cond.warmOk_of_B (names := []) (fun _ z => nomatch z) w (sx_L_wb w hw)) (h w hw)
  rw [Cond.onTables_vm (A' := #[]) (U' := U) U.vm w (sx_L_on w hw), State.setVm_self] at h1
  exact h1
/-- the texts of the throws: their entries in the class's pool -/
def sx_T : List (Nat × String) := [(22, "n is not 16 .. 16384"), (34, "fields or words is not 0 .. 2000"), (104, "what is not 0 .. 6"), (114, "no such root"), (120, "no such object"), (125, "no such field"), (130, "no such word")]
def sx_G (A : Nat → Prop) (U : State) (H : Heap) : Prop := sx_Ok U ∧ vx_Zq Bundle.tN "UNASSIGNED_STACK" Bundle.steD A U H ∧ vx_Zq Bundle.tN "SUPPRESSED_SENTINEL" Bundle.listD A U H ∧ ∀ q ∈ sx_T, ∃ sa, vk_R RX q.1 q.2 sa U
theorem sx_G.warm {A : Nat → Prop} {s U : State} {H : Heap} (h : sx_G A s H) (hW : s.WarmedH U.vm) : sx_G A U H :=
  ⟨h.1.warm hW, h.2.1.moved hW.alike, h.2.2.1.moved hW.alike, fun q hq => by obtain ⟨sa, h1⟩ := h.2.2.2 q hq; exact ⟨sa, vk_R.warm hW h1⟩⟩
theorem sx_G.kept {A : Nat → Prop} {s : State} {H H1 : Heap} (h : sx_G A s H) (hq : ∀ a : Nat, a < H.size → ¬ A a → H1[a]? = H[a]?) : sx_G A s H1 := ⟨h.1, h.2.1.kept hq, h.2.2.1.kept hq, h.2.2.2⟩
theorem sx_G.narrow {A B : Nat → Prop} {s : State} {H : Heap} (h : sx_G A s H) (hAB : ∀ q, B q → A q) : sx_G B s H := ⟨h.1, h.2.1.narrow hAB, h.2.2.1.narrow hAB, h.2.2.2⟩
theorem sx_G.calling {A : Nat → Prop} {U : State} {H : Heap} (g : JFrame) (mk : MethodId) (a : Array Value) (h : sx_G A U H) : sx_G A (U.calling g mk a) H := h.warm (State.WarmedH.refl U)
abbrev sy_Mx (l : Launch) (y : MethodName) (wds : List Cond) (rm : Room) (D : va_G) (cl : List vw_C) (tys : List (ClassId × FieldType)) (av : List Value) (ws : va_W) (sz : Nat) (E : String) (mc ms : Nat) : Prop :=
  vx_Met l y wds rm (va_Pc av (fun U => sy_in D cl tys ws sz U ∧ sx_G (va_A ws sz) U U.heap)) (fun _ _ _ _ => False) (vx_X (fun (_ : Unit) => True) (fun E' _ t => E' = E ∧ sy_out D cl tys (va_A ws sz) ws t) (va_A ws sz)) mc ms (va_A ws sz)
theorem sx_goodI : ∀ w ∈ Cond.classLink RX 20 sx_IAE :: Cond.initialized sx_IAE :: sx_LI, vx_ot w = true := by decide +kernel
theorem sx_goodN : ∀ w ∈ Cond.classLink RX 112 sx_NSE :: Cond.initialized sx_NSE :: sx_LN, vx_ot w = true := by decide +kernel
section TX
variable {p : Program} {l : Launch} {e : Env} {R : Room} {s : State} {m : MethodId} {args : Array Value} {below : List Frame} {meth : Method} {c : Code} {H : Heap} {locs : List Loc} {cells slots : Nat} {Q : State → Prop}
variable {cc : ByteArray} {pc mc ms : Nat} {rest : List Value} {ls : Array Slot} {D : va_G} {cl : List vw_C} {tys : List (ClassId × FieldType)} {A : Nat → Prop} {ws : va_W}
/-- throw new E("text"), by the class -/
theorem sy_throw {E text : String} {ik is ic i1 : Nat} {b1 : ByteArray} (hE : (E = sx_IAE ∧ ik = 20 ∧ ic = 24 ∧ i1 = 7 ∧ b1 = prog_5_method_2_code) ∨ (E = sx_NSE ∧ ik = 112 ∧ ic = 116 ∧ i1 = 13 ∧ b1 = prog_11_method_4_code)) (hexec : p.tables.exec = Jvm.exec) (hb : c.code = cc) (hst : l.stackTraces = false) (hown : s.vm.findClass RX = some m.cls) (hbg : ∀ w ∈ sr_big, w.before args s = true) (ht : (is, text) ∈ sx_T)
    (hG : sx_G A s s.heap) (hP : va_P D cl ws H) (hK : va_K D cl tys s) (hD : va_D A ws) (hS : va_S A s.heap H locs) (hsize : ls.size = c.maxLocals)
    (d0 : decode cc pc = .ok (.new ik, 3)) (d3 : decode cc (pc + 3) = .ok (.dup, 1)) (d4 : decode cc (pc + 4) = .ok (.ldc is, 2)) (d6 : decode cc (pc + 6) = .ok (.invokespecial ic, 3)) (d9 : decode cc (pc + 9) = .ok (.athrow, 1))
    (htab : ∀ x ∈ c.exceptionTable.toList, False) (hRframes : 5 < R.frames) (hRlocals : (rest.map fun v => v.category).sum + 82 ≤ R.locals) (hRcells : cells + 1 ≤ R.cells) (hRslots : slots + 6 ≤ R.slots) (hlocks : meth.locks = false) (hc : cells + 1 ≤ mc) (hs : slots + 6 ≤ ms) :
    W p l e R s m args below meth c H locs cells slots (vx_MQ below (fun _ _ _ _ => False) (vx_X (fun (_ : Unit) => True) (fun E' _ t => E' = E ∧ sy_out D cl tys A ws t) A) args s mc ms A) (F0 m pc ls rest) := by
  obtain ⟨sa, hstr⟩ := hG.2.2.2 _ ht
  have hx : ∀ t : State, s.vm.Alike t.vm → H.size ≤ t.heap.size → (∀ q : Nat, q < H.size → t.heap[q]? = H[q]?) → vx_X (fun (_ : Unit) => True) (fun E' _ t => E' = E ∧ sy_out D cl tys A ws t) A E s t := fun t hal hz hq =>
    ⟨(), trivial, ⟨rfl, hP.kept (fun k q hk => hq q.1 (hP k q hk).lt), va_K.moved hal hK, hD⟩, Nat.le_trans hS.1 hz, fun q h1 h2 => (hq q (Nat.lt_of_lt_of_le h1 hS.1)).trans (hS.2.1 q h1 h2)⟩
  have hout : ∀ x ∈ c.exceptionTable.toList, covers x (pc + 9) = false := fun x h => (htab x h).elim
  obtain ⟨hat, hgood, hk, hini, hfit, g0, g1, g2, g5⟩ : (∀ w ∈ (sx_own RX ic E sx_RE i1 b1 sx_NS).filter vx_no, w.before args s = true) ∧ (∀ w ∈ Cond.classLink RX ik E :: Cond.initialized E :: (sx_own RX ic E sx_RE i1 b1 sx_NS).filter vx_no, vx_ot w = true) ∧ (Cond.classLink RX ik E).before args s = true ∧ (Cond.initialized E).before args s = true ∧ Bundle.fit E = true ∧
      decode b1 0 = .ok (.aload_n 0, 1) ∧ decode b1 1 = .ok (.aload_n 1, 1) ∧ decode b1 2 = .ok (.invokespecial i1, 3) ∧ decode b1 5 = .ok (.return_, 1) := by
    rcases hE with ⟨rfl, rfl, rfl, rfl, rfl⟩ | ⟨rfl, rfl, rfl, rfl, rfl⟩
    · exact ⟨fun w hw => sx_any (sx_L_on w (List.mem_append_left _ hw)) (hG.1 w (List.mem_append_left _ hw)), sx_goodI, hbg _ (by decide +kernel), hbg _ (by decide +kernel), by decide +kernel, by decide +kernel, by decide +kernel, by decide +kernel, by decide +kernel⟩
    · exact ⟨fun w hw => sx_any (sx_L_on w (List.mem_append_right _ hw)) (hG.1 w (List.mem_append_right _ hw)), sx_goodN, hbg _ (by decide +kernel), hbg _ (by decide +kernel), by decide +kernel, by decide +kernel, by decide +kernel, by decide +kernel, by decide +kernel⟩
  intro T hT X
  have htr : e.platform.stackTraces = false := (show e.platform.stackTraces = l.stackTraces by rw [X.admits.platform]).trans hst
  have Y := vx_rebase X (R' := { frames := R.frames, locals := R.locals, cells := 1, slots := 6 }) (Nat.le_refl _) (Nat.le_refl _) hRcells hRslots
  obtain ⟨s', hA⟩ : ∃ z, z = (T.setVm s.vm).setFrames (.invoking m args :: below) := ⟨_, rfl⟩
  rw [← hA] at Y
  have hvm : s'.vm = s.vm := by rw [hA]; rfl
  have hhp : s'.heap = H := by rw [hA]; exact hT
  have hW0 : s.WarmedH s'.vm := by rw [hvm]; exact State.WarmedH.refl s
  have hat' : ∀ w ∈ (sx_own RX ic E sx_RE i1 b1 sx_NS).filter vx_no, w.before args s' = true := fun w hw => vx_ot_at hW0 hvm.symm (hgood w (List.mem_cons_of_mem _ (List.mem_cons_of_mem _ hw))) (hat w hw)
  have hk' : (Cond.classLink RX ik E).before args s' = true := vx_ot_at hW0 hvm.symm (hgood _ List.mem_cons_self) hk
  have hini' : (Cond.initialized E).before args s' = true := vx_ot_at hW0 hvm.symm (hgood _ (List.mem_cons_of_mem _ List.mem_cons_self)) hini
  have hU' : vx_Zq Bundle.tN "UNASSIGNED_STACK" Bundle.steD A s' s'.heap := by rw [hhp]; exact vx_Zq.moved hW0.alike (hG.2.1.kept hS.2.1)
  have hN' : vx_Zq Bundle.tN "SUPPRESSED_SENTINEL" Bundle.listD A s' s'.heap := by rw [hhp]; exact vx_Zq.moved hW0.alike (hG.2.2.1.kept hS.2.1)
  have h : ∀ w ∈ sx_own RX ic E sx_RE i1 b1 sx_NS, w.before args s' = true := vx_own hat' (vx_isRefq hU'.1) (vx_isRefq hN'.1) hU'.2.word hN'.2.word
  have hown' : s'.vm.findClass RX = some m.cls := by rw [hvm]; exact hown
  have hins : (Cond.instantiable E 6).before args s' = true := h _ (by simp [sx_own, sx_tail])
  obtain ⟨vm₁, cX, kX, hfX, hkX, -, -, X₁, st1⟩ := Y.newCold hexec (own := RX) (C := E) (index := ik) (n := 6) hown' hk' hins hini'
    (g := F0 m pc ls rest) rfl (by rw [hb]; exact d0) (Nat.le_refl _) (Nat.le_refl _)
  generalize hT1 : (T.setVm vm₁).pushCell { cls := cX, slots := kX.instanceTypes.map defaultValue, vm := .none } = T1 at X₁ st1
  have hcat : (Value.ref T.heap.size).category = 1 := rfl
  have hcellA : T1.heap[T.heap.size]? = some (freshCell cX kX) := by rw [← hT1]; exact State.heap_pushCell_size _ _
  have d3' : decode c.code (pc + 3) = .ok (.dup, 1) := by rw [hb]; exact d3
  have d4' : decode c.code (pc + 4) = .ok (.ldc is, 2) := by rw [hb]; exact d4
  have hstr' : vk_R RX is text sa s' := vk_R.warm hW0 hstr
  obtain ⟨U, hsteps, hrun, hend, hW, hsame, ce, hce, hcv, hcl0⟩ := sx_ctor X₁ hexec htr (own := RX) (cls := E) (Y := sx_RE) (names := sx_NS) (ic := ic) (i1 := i1) (b1 := b1) hown' hfit (by decide +kernel) (by decide +kernel) g0 g1 g2 g5 h (vx_isRefq hU'.1) (vx_isRefq hN'.1) (fun x hx => nomatch hx) hfX hkX hcellA (by rw [hhp, hT]; exact Nat.le_refl _) (msg := .ref sa) rfl
    (g := { method := m, pc := pc + 6, locals := ls, stack := .ref sa :: .ref T.heap.size :: .ref T.heap.size :: rest, locked := none }) rfl hsize rfl rfl (rest := rest) rfl
    (by rw [hb]; exact d6) (by rw [hb]; exact d9) hout hRframes (by simp only [List.map_cons, List.sum_cons, hcat, sx_NS, List.length_cons, List.length_nil]; have : (F0 m pc ls rest).monitorRoom = 0 := rfl; omega) hlocks
  obtain ⟨f1, f2⟩ := vx_frame hsame
  rw [hhp] at f1 f2
  have hWs : s.WarmedH U.vm := State.WarmedH.trans hW0 hW
  have hcl : s.vm.findClass E = some ce.cls := by rw [hvm] at hcl0; exact hcl0
  have hall : s.sameButNew ({ U with vm := s.vm } : State) locs mc ms := by
    subst hA
    obtain ⟨e1, e2⟩ := hsame
    rw [State.setFrames_setFrames] at e1
    have h2 : (T.setVm s.vm).sameButNew ({ U with vm := s.vm } : State) [] (0 + 1) (0 + 6) := ⟨e1, e2⟩
    have h3 := X.same.trans h2
    rw [List.append_nil] at h3
    exact h3.mono hc hs
  refine ⟨U, ?_, .threw T.heap.size, hrun, hend, Or.inr ⟨T.heap.size, rfl, E, ce, locs, hx U hWs.alike f1 (fun q hq => f2 q hq (fun z hz => nomatch hz)), hce, hcv, hcl, hWs, hall, hS.2.2⟩⟩
  refine st1 _ ?_
  show Steps p.tables e below (T1.setTop { method := m, pc := pc + 3, locals := ls, stack := .ref T.heap.size :: rest, locked := none }) _
  jvm_step X₁.here [X₁.here.top, hexec, d3', Value.category]
  exact X₁.ldcString hexec (own := RX) (text := text) (index := is) (a := sa) hown' hstr'.1 hstr'.2
    (g := { method := m, pc := pc + 4, locals := ls, stack := .ref T.heap.size :: .ref T.heap.size :: rest, locked := none }) rfl d4' _ hsteps
variable {y : MethodName} {bytes : ByteArray} {maxL nL n index : Nat} {ret : Option FieldType} {wds : List Cond} {rm : Room} {Ts : List Cond} {own C E : String} {b : Addr} {As st0 : List Value} {tys0 : List (ClassId × FieldType)} {wc wr : va_W} {q0 ci N : Nat} {T : u_T} {fs : List Value}
/-- a call that throws -/
theorem sy_cVx (S : CallFix p m c cc nL s args Ts own) (hM : sy_Mx l y wds rm D cl tys0 (.ref b :: As) wc H.size E mc ms) (cw : CallW R s args own C index y bytes maxL ret wds rm mc ms n)
    (hK : va_K D cl tys s) (tks : List Nat) (htk : tks.filterMap (fun i => tys[i]?) = tys0) (hP : va_P D cl ws H) (hD : va_D A ws) (hS : va_S A s.heap H locs) (hA : ∀ q, s.heap.size ≤ q → A q) (hG : sx_G A s s.heap)
    (isC isR : List Nat) (hC : isC.map (fun i => ws[i]?) = wc.map some) (hR : isR.map (fun i => ws[i]?) = wr.map some) (hnC : va_nd isC = true) (hnR : va_nd isR = true) (hdis : ∀ i ∈ isR, i ∉ isC)
    (hc : cl[ci]? = some (C, T, N)) (he : wc[q0]? = some (b, .inr (ci, fs)))
    (hn : As.length = n) (hsize : ls.size = nL) (hstack : st0 = As.reverse ++ .ref b :: rest) (hW : (rest.map fun v => v.category).sum ≤ 8) (hdg : decode cc pc = .ok (.invokevirtual index, 3)) (hf : cells + mc ≤ R.cells ∧ slots + ms ≤ R.slots)
    (kx : ∀ (q : Addr) (ce : Cell) (H1 : Heap) (locs1 : List Loc), va_P D cl (wr ++ wc) H1 → va_D A (wr ++ wc) → va_S A s.heap H1 locs1 → H1[q]? = some ce → ce.vm = .none → s.vm.findClass E = some ce.cls → vx_W p l e R s m args below meth c H1 locs1 (cells + mc) (slots + ms) Q (F0 m pc ls rest) q) :
    W p l e R s m args below meth c H locs cells slots Q (F0 m pc ls st0) := by
  have hPc : va_P D cl wc H := fun k q hk => by
    have h1 : (isC.map (fun i => ws[i]?))[k]? = some (some q) := by rw [hC, List.getElem?_map, hk]; rfl
    rw [List.getElem?_map] at h1
    cases hi : isC[k]? with
    | none => rw [hi] at h1; cases h1
    | some i => rw [hi] at h1; exact hP i q (Option.some.inj h1)
  have hDc : va_D A wc := hD.sub isC hnC hC
  have hKc : va_K D cl tys0 s := hK.sub tks htk
  have hFc := va_free (wc := wc) hD hS hA isC hC
  have hGc : sx_G (va_A wc H.size) s H := (hG.kept hS.2.1).narrow hFc
  have hbl : FrameBlind (va_Pc (.ref b :: As) (fun U => sy_in D cl tys0 wc H.size U ∧ sx_G (va_A wc H.size) U U.heap)) := fun a U g mk q => by
    obtain ⟨q0, ⟨q1, qP, qK, qD⟩, qG⟩ := q
    exact ⟨q0, ⟨q1, qP, va_K.moved (u := U) (U := U.calling g mk a) (Vm.Alike.refl U.vm) qK, qD⟩, qG.calling g mk a⟩
  intro T0 hT X
  rcases vx_runV (g := F0 m pc ls st0) (As := As) (rest := rest) S hM cw ⟨hbl, va_recv hKc hPc hc he, fun U hU hWm => ⟨rfl, ⟨by rw [hU], by rw [hU]; exact hPc, va_K.moved hWm.alike hKc, hDc.weaken (fun _ _ _ _ => trivial)⟩, by rw [hU]; exact hGc.warm hWm⟩⟩ rfl hn hsize hstack (lv_room hW) hdg hf T0 hT X with ⟨v, st₀, t, T', L, h0, X', hL, e1, e2, hq, st⟩ | ⟨q, st₀, t, T', L, E', ce, h0, X', hL, e1, e2, ⟨u, -, ⟨hE', hP1, hK1, hD1⟩, hF⟩, hce, hcv, hcl, st⟩
  · exact hq.elim
  · subst hE'
    obtain ⟨k1, k2, k3⟩ := vx_keep h0 e1 hS (fun q _ h => hFc q h) hFc hL hF
    rw [← e1] at hP1 hce
    obtain ⟨hP2, hD2⟩ := va_join hP hD isC isR hC hR hnR hdis k2 hFc hP1 hD1
    obtain ⟨t2, a1, b1⟩ := kx q ce T'.heap (locs ++ L) hP2 hD2 k3 hce hcv hcl T' rfl X'
    exact ⟨t2, st.trans a1, b1⟩
/-- not caught here -/
theorem sy_outx {q : Addr} {ce : Cell} {mc2 ms2 : Nat} (htab : ∀ x ∈ c.exceptionTable.toList, False) (hlocks : meth.locks = false) (hP : va_P D cl ws H) (hK : va_K D cl tys s) (hD : va_D A ws) (hS : va_S A s.heap H locs) (hcell : H[q]? = some ce) (hv : ce.vm = .none) (hcl : s.vm.findClass E = some ce.cls) (h1 : cells ≤ mc2) (h2 : slots ≤ ms2) :
    vx_W p l e R s m args below meth c H locs cells slots (vx_MQ below (fun _ _ _ _ => False) (vx_X (fun (_ : Unit) => True) (fun E' _ t => E' = E ∧ sy_out D cl tys A ws t) A) args s mc2 ms2 A) (F0 m pc ls rest) q :=
  vx_out (fun x h => (htab x h).elim) hlocks hcell hv hcl (fun t ht hal => ⟨(), trivial, ⟨rfl, by rw [ht]; exact hP, va_K.moved hal hK, hD⟩, hS.F ht⟩) hS.2.2 h1 h2
end TX
end
section
/-! CONTRACTS OF SlideRow: reads, writes, sizes (rows laid by wip/gen) -/
abbrev wX (h rr cc : Nat) (cI : ClassId) (N : Nat) (R C : Nat → Int32) (li us ob sl go gi fr la re : Int32) : va_W := [(h, .inr (0, [.ref rr, .ref cc, .int li, .int us, .int ob, .int sl, .int go, .int gi, .int fr, .int la, .int re])), (rr, .inl (cI, 16, .inl R)), (cc, .inl (cI, N, .inl C))]
theorem sr_vin {i : Int32} {N : Nat} (h1 : ¬ i < 1) (h2 : ¬ nI N ≤ i) (hN : N < 2 ^ 31) : vp_in i N := by
  have a1 : (1 : Int32).toInt = 1 := by decide
  rw [vp_in_iff]
  rw [Int32.lt_iff_toInt_lt, a1] at h1
  rw [Int32.le_iff_toInt_le, nI_toInt hN] at h2
  omega
/-- a counter below a bound that may be anything -/
theorem sr_cle {x : Int32} {j : Nat} (hj : j < 2 ^ 31) : x ≤ nI j ↔ x.toNatClampNeg ≤ j := by
  rw [Int32.le_iff_toInt_le, nI_toInt hj]
  have : x.toNatClampNeg = x.toInt.toNat := rfl
  omega
theorem sr_clt (x : Int32) : x.toNatClampNeg < 2 ^ 31 := by
  have h := x.toInt_lt
  have : x.toNatClampNeg = x.toInt.toNat := rfl
  omega

set_option maxHeartbeats 4000000 in
set_option maxRecDepth 100000 in
theorem ct_X_read (l : Launch) (D : va_G) (h rr cc : Nat) (cI : ClassId) (N : Nat) (R C : Nat → Int32) (li us ob sl go gi fr la re : Int32) (sz : Nat) (i : Int32) (hN : N < 2 ^ 31) : sy_Mi l yX_read (Cond.code yX_read bX_read 2 (some .int) :: sr_big) { frames := 0, cells := 0, slots := 0, locals := 0 } D vwC [(cI, .int)] [.ref h, .int i] (wX h rr cc cI N R C li us ob sl go gi fr la re) sz (sr_rd N C i) (wX h rr cc cI N R C li us ob sl go gi fr la re) 0 0 := by
  refine Met.ofW (cc := bX_read) (maxL := 2) (ret := (some .int)) (by decide) rfl ?_
  intro p e s m args below meth c s₁ B hml hv
  obtain ⟨rfl, hsz, hP, hK, hD0⟩ := hv
  have hx := B.exec
  have hb := B.bytes
  have hr := B.returns
  have hbg : ∀ w ∈ sr_big, w.before _ s = true := fun w h => atoms_spec (ws := Cond.code yX_read bX_read 2 (some .int) :: sr_big) B.pre w (List.mem_cons_of_mem _ h)
  have hown : s.vm.findClass RX = some m.cls := findClass_of_methodNamed B.named
  have hlocks := B.notSynchronized
  subst hsz
  have hD := hD0.self (sz := s.heap.size)
  generalize hAe : va_A (wX h rr cc cI N R C li us ob sl go gi fr la re) s.heap.size = A at *
  have hA : ∀ q : Nat, s.heap.size ≤ q → A q := fun q h => by rw [← hAe]; exact Or.inr h
  have hS : va_S A s.heap s.heap [] := va_S.rf
  have hl := lv_entry ([.ref h, .int i]) (n := 2) (Nat.le_of_ble_eq_true rfl)
  rw [lg_entry_eq]
  generalize (lg_sl ([.ref h, .int i]) ++ List.replicate (2 - (lg_sl ([.ref h, .int i])).length) Slot.unset).toArray = ls at hl ⊢
  have hl : lv_has ls 2 [(0, .ref h), (1, .int i)] := hl
  refine lv_iload_n hx hb dX_read_0 rfl (lv_at hl 1 rfl) ?_
  refine lv_iconst (v := 1) hx hb dX_read_1 (by decide) ?_
  refine lv_icmp_lt (tgt := 23) hx hb dX_read_2 (by decide) (fun c_2 => ?_) (fun c_2 => ?_)
  · refine lv_iconst (v := 0) hx hb dX_read_23 (by decide) ?_
    refine W.widen (k := 0) (n := 0) (Nat.le_of_ble_eq_true rfl) (Nat.le_of_ble_eq_true rfl) ?_
    exact W.iret (v := 0) hx hb hr (fun t ht hW => ⟨⟨0, (), rfl, (by simp only [sr_rd, c_2, ↓reduceIte]), by rw [ht]; exact hP, va_K.moved hW.alike hK, hD⟩, hS.F ht⟩) hS.2.2 dX_read_24
  · refine lv_iload_n hx hb dX_read_5 rfl (lv_at hl 1 rfl) ?_
    refine lv_aload_n hx hb dX_read_6 rfl (lv_at hl 0 rfl) ?_
    refine va_get (D := D) (ci := 0) (v := .ref cc) (C := RX) (T := TX) (N := 11) hx hb hbg bg_X hown hK hP 0 rfl rfl 1 (by decide) (hbg _ bw_52) (fun _ h9 => h9) rfl dX_read_7 ?_
    refine va_alen hx hb hK hP 2 0 rfl rfl (v := nI N) rfl dX_read_10 ?_
    refine lv_icmp_ge (tgt := 23) hx hb dX_read_11 (by decide) (fun c_11 => ?_) (fun c_11 => ?_)
    · refine lv_iconst (v := 0) hx hb dX_read_23 (by decide) ?_
      refine W.widen (k := 0) (n := 0) (Nat.le_of_ble_eq_true rfl) (Nat.le_of_ble_eq_true rfl) ?_
      exact W.iret (v := 0) hx hb hr (fun t ht hW => ⟨⟨0, (), rfl, (by simp only [sr_rd, c_2, c_11, ↓reduceIte]), by rw [ht]; exact hP, va_K.moved hW.alike hK, hD⟩, hS.F ht⟩) hS.2.2 dX_read_24
    · refine lv_aload_n hx hb dX_read_14 rfl (lv_at hl 0 rfl) ?_
      refine va_get (D := D) (ci := 0) (v := .ref cc) (C := RX) (T := TX) (N := 11) hx hb hbg bg_X hown hK hP 0 rfl rfl 1 (by decide) (hbg _ bw_52) (fun _ h9 => h9) rfl dX_read_15 ?_
      refine lv_iload_n hx hb dX_read_18 rfl (lv_at hl 1 rfl) ?_
      refine va_iald hx hb hK hP 2 0 rfl rfl (sr_vin c_2 c_11 hN) dX_read_19 ?_
      refine lv_goto (tgt := 24) hx hb dX_read_20 (by decide) ?_
      refine W.widen (k := 0) (n := 0) (Nat.le_of_ble_eq_true rfl) (Nat.le_of_ble_eq_true rfl) ?_
      exact W.iret (v := C i.toNatClampNeg) hx hb hr (fun t ht hW => ⟨⟨C i.toNatClampNeg, (), rfl, (by simp only [sr_rd, c_2, c_11, ↓reduceIte]), by rw [ht]; exact hP, va_K.moved hW.alike hK, hD⟩, hS.F ht⟩) hS.2.2 dX_read_24

set_option maxHeartbeats 4000000 in
set_option maxRecDepth 100000 in
theorem ct_X_write (l : Launch) (D : va_G) (h rr cc : Nat) (cI : ClassId) (N : Nat) (R C : Nat → Int32) (li us ob sl go gi fr la re : Int32) (sz : Nat) (i v : Int32) (hN : N < 2 ^ 31) : sy_Mv l yX_write (Cond.code yX_write bX_write 3 none :: sr_big) { frames := 0, cells := 0, slots := 0, locals := 0 } D vwC [(cI, .int)] [.ref h, .int i, .int v] (wX h rr cc cI N R C li us ob sl go gi fr la re) sz (wX h rr cc cI N R (sr_wr N C i v) li us ob sl go gi fr la re) 0 0 := by
  refine Met.ofW (cc := bX_write) (maxL := 3) (ret := none) (by decide) rfl ?_
  intro p e s m args below meth c s₁ B hml hv
  obtain ⟨rfl, hsz, hP, hK, hD0⟩ := hv
  have hx := B.exec
  have hb := B.bytes
  have hr := B.returns
  have hbg : ∀ w ∈ sr_big, w.before _ s = true := fun w h => atoms_spec (ws := Cond.code yX_write bX_write 3 none :: sr_big) B.pre w (List.mem_cons_of_mem _ h)
  have hown : s.vm.findClass RX = some m.cls := findClass_of_methodNamed B.named
  have hlocks := B.notSynchronized
  subst hsz
  have hD := hD0.self (sz := s.heap.size)
  generalize hAe : va_A (wX h rr cc cI N R C li us ob sl go gi fr la re) s.heap.size = A at *
  have hA : ∀ q : Nat, s.heap.size ≤ q → A q := fun q h => by rw [← hAe]; exact Or.inr h
  have hS : va_S A s.heap s.heap [] := va_S.rf
  have hl := lv_entry ([.ref h, .int i, .int v]) (n := 3) (Nat.le_of_ble_eq_true rfl)
  rw [lg_entry_eq]
  generalize (lg_sl ([.ref h, .int i, .int v]) ++ List.replicate (3 - (lg_sl ([.ref h, .int i, .int v])).length) Slot.unset).toArray = ls at hl ⊢
  have hl : lv_has ls 3 [(0, .ref h), (1, .int i), (2, .int v)] := hl
  refine lv_iload_n hx hb dX_write_0 rfl (lv_at hl 1 rfl) ?_
  refine lv_iconst (v := 1) hx hb dX_write_1 (by decide) ?_
  refine lv_icmp_lt (tgt := 21) hx hb dX_write_2 (by decide) (fun c_2 => ?_) (fun c_2 => ?_)
  · have eC : sr_wr N C i v = C := by simp only [sr_wr, c_2, ↓reduceIte]
    rw [eC]
    refine W.widen (k := 0) (n := 0) (Nat.le_of_ble_eq_true rfl) (Nat.le_of_ble_eq_true rfl) ?_
    exact W.vret hx hb hr (fun t ht hW => ⟨⟨(), rfl, trivial, by rw [ht]; exact hP, va_K.moved hW.alike hK, hD⟩, hS.F ht⟩) hS.2.2 dX_write_21
  · refine lv_iload_n hx hb dX_write_5 rfl (lv_at hl 1 rfl) ?_
    refine lv_aload_n hx hb dX_write_6 rfl (lv_at hl 0 rfl) ?_
    refine va_get (D := D) (ci := 0) (v := .ref cc) (C := RX) (T := TX) (N := 11) hx hb hbg bg_X hown hK hP 0 rfl rfl 1 (by decide) (hbg _ bw_52) (fun _ h9 => h9) rfl dX_write_7 ?_
    refine va_alen hx hb hK hP 2 0 rfl rfl (v := nI N) rfl dX_write_10 ?_
    refine lv_icmp_ge (tgt := 21) hx hb dX_write_11 (by decide) (fun c_11 => ?_) (fun c_11 => ?_)
    · have eC : sr_wr N C i v = C := by simp only [sr_wr, c_2, c_11, ↓reduceIte]
      rw [eC]
      refine W.widen (k := 0) (n := 0) (Nat.le_of_ble_eq_true rfl) (Nat.le_of_ble_eq_true rfl) ?_
      exact W.vret hx hb hr (fun t ht hW => ⟨⟨(), rfl, trivial, by rw [ht]; exact hP, va_K.moved hW.alike hK, hD⟩, hS.F ht⟩) hS.2.2 dX_write_21
    · refine lv_aload_n hx hb dX_write_14 rfl (lv_at hl 0 rfl) ?_
      refine va_get (D := D) (ci := 0) (v := .ref cc) (C := RX) (T := TX) (N := 11) hx hb hbg bg_X hown hK hP 0 rfl rfl 1 (by decide) (hbg _ bw_52) (fun _ h9 => h9) rfl dX_write_15 ?_
      refine lv_iload_n hx hb dX_write_18 rfl (lv_at hl 1 rfl) ?_
      refine lv_iload_n hx hb dX_write_19 rfl (lv_at hl 2 rfl) ?_
      refine va_iast hx hb hK hP hD hS 2 0 rfl rfl (sr_vin c_2 c_11 hN) dX_write_20 (fun H locs hP hD hS => ?_)
      have hP : va_P D vwC (wX h rr cc cI N R (upd C i.toNatClampNeg v) li us ob sl go gi fr la re) H := hP
      have hD : va_D A (wX h rr cc cI N R (upd C i.toNatClampNeg v) li us ob sl go gi fr la re) := hD
      have eC : sr_wr N C i v = upd C i.toNatClampNeg v := by simp only [sr_wr, c_2, c_11, ↓reduceIte]
      rw [← eC] at hP hD
      refine W.widen (k := 0) (n := 0) (Nat.le_of_ble_eq_true rfl) (Nat.le_of_ble_eq_true rfl) ?_
      exact W.vret hx hb hr (fun t ht hW => ⟨⟨(), rfl, trivial, by rw [ht]; exact hP, va_K.moved hW.alike hK, hD⟩, hS.F ht⟩) hS.2.2 dX_write_21

set_option maxHeartbeats 4000000 in
set_option maxRecDepth 100000 in
theorem ct_X_fieldsOf (l : Launch) (D : va_G) (h rr cc : Nat) (cI : ClassId) (N : Nat) (R C : Nat → Int32) (li us ob sl go gi fr la re : Int32) (sz : Nat) (a : Int32) (hN : N < 2 ^ 31) : sy_Mi l yX_fieldsOf (Cond.code yX_fieldsOf bX_fieldsOf 2 (some .int) :: sr_big) { frames := 1, cells := 0, slots := 0, locals := 21 } D vwC [(cI, .int)] [.ref h, .int a] (wX h rr cc cI N R C li us ob sl go gi fr la re) sz (sr_fi N C a) (wX h rr cc cI N R C li us ob sl go gi fr la re) 0 0 := by
  refine Met.ofW (cc := bX_fieldsOf) (maxL := 2) (ret := (some .int)) (by decide) rfl ?_
  intro p e s m args below meth c s₁ B hml hv
  obtain ⟨rfl, hsz, hP, hK, hD0⟩ := hv
  have hx := B.exec
  have hb := B.bytes
  have hr := B.returns
  have hbg : ∀ w ∈ sr_big, w.before _ s = true := fun w h => atoms_spec (ws := Cond.code yX_fieldsOf bX_fieldsOf 2 (some .int) :: sr_big) B.pre w (List.mem_cons_of_mem _ h)
  have hown : s.vm.findClass RX = some m.cls := findClass_of_methodNamed B.named
  have hlocks := B.notSynchronized
  subst hsz
  have hD := hD0.self (sz := s.heap.size)
  generalize hAe : va_A (wX h rr cc cI N R C li us ob sl go gi fr la re) s.heap.size = A at *
  have hA : ∀ q : Nat, s.heap.size ≤ q → A q := fun q h => by rw [← hAe]; exact Or.inr h
  have hS : va_S A s.heap s.heap [] := va_S.rf
  have hl := lv_entry ([.ref h, .int a]) (n := 2) (Nat.le_of_ble_eq_true rfl)
  rw [lg_entry_eq]
  generalize (lg_sl ([.ref h, .int a]) ++ List.replicate (2 - (lg_sl ([.ref h, .int a])).length) Slot.unset).toArray = ls at hl ⊢
  have hl : lv_has ls 2 [(0, .ref h), (1, .int a)] := hl
  refine lv_aload_n hx hb dX_fieldsOf_0 rfl (lv_at hl 0 rfl) ?_
  refine lv_iload_n hx hb dX_fieldsOf_1 rfl (lv_at hl 1 rfl) ?_
  refine lv_iconst (v := 0) hx hb dX_fieldsOf_2 (by decide) ?_
  refine lv_iadd hx hb dX_fieldsOf_3 ?_
  refine sy_cVi (wc := wX h rr cc cI N R C li us ob sl go gi fr la re) (wr := []) (w1 := wX h rr cc cI N R C li us ob sl go gi fr la re) (ci := 0) (q0 := 0) (As := [.int (a + 0)]) (rest := []) ⟨hx, hb, hml, hown, hbg⟩ (ct_X_read l D h rr cc cI N R C li us ob sl go gi fr la re s.heap.size (a + 0) hN) (cwV 1 hbg (bg_V bw_90 bw_91 bw_4 bw_34 bw_92) rfl rfl rfl (by decide +kernel) ⟨Nat.le_of_ble_eq_true rfl, Nat.le_of_ble_eq_true rfl⟩) hK [0] rfl hP hD hS hA [0, 1, 2] [] rfl rfl rfl rfl (by decide) rfl rfl rfl hl.1 rfl (by decide) dX_fieldsOf_4 ⟨Nat.le_of_ble_eq_true rfl, Nat.le_of_ble_eq_true rfl⟩ (fun H locs hP hD hS => ?_)
  have hP : va_P D vwC (wX h rr cc cI N R C li us ob sl go gi fr la re) H := hP
  have hD : va_D A (wX h rr cc cI N R C li us ob sl go gi fr la re) := hD
  refine lv_bipush (v := 12) hx hb dX_fieldsOf_7 (by decide) ?_
  refine lv_ishr hx hb dX_fieldsOf_9 ?_
  refine W.widen (k := 0) (n := 0) (Nat.le_of_ble_eq_true rfl) (Nat.le_of_ble_eq_true rfl) ?_
  exact W.iret (v := (sr_rd N C (a + 0)) >>> (12 &&& 31)) hx hb hr (fun t ht hW => ⟨⟨(sr_rd N C (a + 0)) >>> (12 &&& 31), (), rfl, rfl, by rw [ht]; exact hP, va_K.moved hW.alike hK, hD⟩, hS.F ht⟩) hS.2.2 dX_fieldsOf_10

set_option maxHeartbeats 4000000 in
set_option maxRecDepth 100000 in
theorem ct_X_wordsOf (l : Launch) (D : va_G) (h rr cc : Nat) (cI : ClassId) (N : Nat) (R C : Nat → Int32) (li us ob sl go gi fr la re : Int32) (sz : Nat) (a : Int32) (hN : N < 2 ^ 31) : sy_Mi l yX_wordsOf (Cond.code yX_wordsOf bX_wordsOf 2 (some .int) :: sr_big) { frames := 1, cells := 0, slots := 0, locals := 21 } D vwC [(cI, .int)] [.ref h, .int a] (wX h rr cc cI N R C li us ob sl go gi fr la re) sz (sr_wi N C a) (wX h rr cc cI N R C li us ob sl go gi fr la re) 0 0 := by
  refine Met.ofW (cc := bX_wordsOf) (maxL := 2) (ret := (some .int)) (by decide) rfl ?_
  intro p e s m args below meth c s₁ B hml hv
  obtain ⟨rfl, hsz, hP, hK, hD0⟩ := hv
  have hx := B.exec
  have hb := B.bytes
  have hr := B.returns
  have hbg : ∀ w ∈ sr_big, w.before _ s = true := fun w h => atoms_spec (ws := Cond.code yX_wordsOf bX_wordsOf 2 (some .int) :: sr_big) B.pre w (List.mem_cons_of_mem _ h)
  have hown : s.vm.findClass RX = some m.cls := findClass_of_methodNamed B.named
  have hlocks := B.notSynchronized
  subst hsz
  have hD := hD0.self (sz := s.heap.size)
  generalize hAe : va_A (wX h rr cc cI N R C li us ob sl go gi fr la re) s.heap.size = A at *
  have hA : ∀ q : Nat, s.heap.size ≤ q → A q := fun q h => by rw [← hAe]; exact Or.inr h
  have hS : va_S A s.heap s.heap [] := va_S.rf
  have hl := lv_entry ([.ref h, .int a]) (n := 2) (Nat.le_of_ble_eq_true rfl)
  rw [lg_entry_eq]
  generalize (lg_sl ([.ref h, .int a]) ++ List.replicate (2 - (lg_sl ([.ref h, .int a])).length) Slot.unset).toArray = ls at hl ⊢
  have hl : lv_has ls 2 [(0, .ref h), (1, .int a)] := hl
  refine lv_aload_n hx hb dX_wordsOf_0 rfl (lv_at hl 0 rfl) ?_
  refine lv_iload_n hx hb dX_wordsOf_1 rfl (lv_at hl 1 rfl) ?_
  refine lv_iconst (v := 0) hx hb dX_wordsOf_2 (by decide) ?_
  refine lv_iadd hx hb dX_wordsOf_3 ?_
  refine sy_cVi (wc := wX h rr cc cI N R C li us ob sl go gi fr la re) (wr := []) (w1 := wX h rr cc cI N R C li us ob sl go gi fr la re) (ci := 0) (q0 := 0) (As := [.int (a + 0)]) (rest := []) ⟨hx, hb, hml, hown, hbg⟩ (ct_X_read l D h rr cc cI N R C li us ob sl go gi fr la re s.heap.size (a + 0) hN) (cwV 1 hbg (bg_V bw_90 bw_91 bw_4 bw_34 bw_92) rfl rfl rfl (by decide +kernel) ⟨Nat.le_of_ble_eq_true rfl, Nat.le_of_ble_eq_true rfl⟩) hK [0] rfl hP hD hS hA [0, 1, 2] [] rfl rfl rfl rfl (by decide) rfl rfl rfl hl.1 rfl (by decide) dX_wordsOf_4 ⟨Nat.le_of_ble_eq_true rfl, Nat.le_of_ble_eq_true rfl⟩ (fun H locs hP hD hS => ?_)
  have hP : va_P D vwC (wX h rr cc cI N R C li us ob sl go gi fr la re) H := hP
  have hD : va_D A (wX h rr cc cI N R C li us ob sl go gi fr la re) := hD
  refine lv_sipush (v := 4095) hx hb dX_wordsOf_7 (by decide) ?_
  refine lv_iand hx hb dX_wordsOf_10 ?_
  refine W.widen (k := 0) (n := 0) (Nat.le_of_ble_eq_true rfl) (Nat.le_of_ble_eq_true rfl) ?_
  exact W.iret (v := (sr_rd N C (a + 0)) &&& 4095) hx hb hr (fun t ht hW => ⟨⟨(sr_rd N C (a + 0)) &&& 4095, (), rfl, rfl, by rw [ht]; exact hP, va_K.moved hW.alike hK, hD⟩, hS.F ht⟩) hS.2.2 dX_wordsOf_11

set_option maxHeartbeats 4000000 in
set_option maxRecDepth 100000 in
theorem ct_X_sizeOf (l : Launch) (D : va_G) (h rr cc : Nat) (cI : ClassId) (N : Nat) (R C : Nat → Int32) (li us ob sl go gi fr la re : Int32) (sz : Nat) (a : Int32) (hN : N < 2 ^ 31) : sy_Mi l yX_sizeOf (Cond.code yX_sizeOf bX_sizeOf 3 (some .int) :: sr_big) { frames := 1, cells := 0, slots := 0, locals := 21 } D vwC [(cI, .int)] [.ref h, .int a] (wX h rr cc cI N R C li us ob sl go gi fr la re) sz (sr_si N C a) (wX h rr cc cI N R C li us ob sl go gi fr la re) 0 0 := by
  refine Met.ofW (cc := bX_sizeOf) (maxL := 3) (ret := (some .int)) (by decide) rfl ?_
  intro p e s m args below meth c s₁ B hml hv
  obtain ⟨rfl, hsz, hP, hK, hD0⟩ := hv
  have hx := B.exec
  have hb := B.bytes
  have hr := B.returns
  have hbg : ∀ w ∈ sr_big, w.before _ s = true := fun w h => atoms_spec (ws := Cond.code yX_sizeOf bX_sizeOf 3 (some .int) :: sr_big) B.pre w (List.mem_cons_of_mem _ h)
  have hown : s.vm.findClass RX = some m.cls := findClass_of_methodNamed B.named
  have hlocks := B.notSynchronized
  subst hsz
  have hD := hD0.self (sz := s.heap.size)
  generalize hAe : va_A (wX h rr cc cI N R C li us ob sl go gi fr la re) s.heap.size = A at *
  have hA : ∀ q : Nat, s.heap.size ≤ q → A q := fun q h => by rw [← hAe]; exact Or.inr h
  have hS : va_S A s.heap s.heap [] := va_S.rf
  have hl := lv_entry ([.ref h, .int a]) (n := 3) (Nat.le_of_ble_eq_true rfl)
  rw [lg_entry_eq]
  generalize (lg_sl ([.ref h, .int a]) ++ List.replicate (3 - (lg_sl ([.ref h, .int a])).length) Slot.unset).toArray = ls at hl ⊢
  have hl : lv_has ls 3 [(0, .ref h), (1, .int a)] := hl
  refine lv_aload_n hx hb dX_sizeOf_0 rfl (lv_at hl 0 rfl) ?_
  refine lv_iload_n hx hb dX_sizeOf_1 rfl (lv_at hl 1 rfl) ?_
  refine lv_iconst (v := 0) hx hb dX_sizeOf_2 (by decide) ?_
  refine lv_iadd hx hb dX_sizeOf_3 ?_
  refine sy_cVi (wc := wX h rr cc cI N R C li us ob sl go gi fr la re) (wr := []) (w1 := wX h rr cc cI N R C li us ob sl go gi fr la re) (ci := 0) (q0 := 0) (As := [.int (a + 0)]) (rest := []) ⟨hx, hb, hml, hown, hbg⟩ (ct_X_read l D h rr cc cI N R C li us ob sl go gi fr la re s.heap.size (a + 0) hN) (cwV 1 hbg (bg_V bw_90 bw_91 bw_4 bw_34 bw_92) rfl rfl rfl (by decide +kernel) ⟨Nat.le_of_ble_eq_true rfl, Nat.le_of_ble_eq_true rfl⟩) hK [0] rfl hP hD hS hA [0, 1, 2] [] rfl rfl rfl rfl (by decide) rfl rfl rfl hl.1 rfl (by decide) dX_sizeOf_4 ⟨Nat.le_of_ble_eq_true rfl, Nat.le_of_ble_eq_true rfl⟩ (fun H locs hP hD hS => ?_)
  have hP : va_P D vwC (wX h rr cc cI N R C li us ob sl go gi fr la re) H := hP
  have hD : va_D A (wX h rr cc cI N R C li us ob sl go gi fr la re) := hD
  refine lv_istore_n (lv' := [(2, .int (sr_rd N C (a + 0))), (0, .ref h), (1, .int a)]) hx hb dX_sizeOf_7 rfl hl (by decide) rfl (fun ls hl => ?_)
  refine lv_iconst (v := 3) hx hb dX_sizeOf_8 (by decide) ?_
  refine lv_iload_n hx hb dX_sizeOf_9 rfl (lv_at hl 0 rfl) ?_
  refine lv_bipush (v := 12) hx hb dX_sizeOf_10 (by decide) ?_
  refine lv_ishr hx hb dX_sizeOf_12 ?_
  refine lv_iadd hx hb dX_sizeOf_13 ?_
  refine lv_iload_n hx hb dX_sizeOf_14 rfl (lv_at hl 0 rfl) ?_
  refine lv_sipush (v := 4095) hx hb dX_sizeOf_15 (by decide) ?_
  refine lv_iand hx hb dX_sizeOf_18 ?_
  refine lv_iadd hx hb dX_sizeOf_19 ?_
  refine W.widen (k := 0) (n := 0) (Nat.le_of_ble_eq_true rfl) (Nat.le_of_ble_eq_true rfl) ?_
  exact W.iret (v := ((3 : Int32) + ((sr_rd N C (a + 0)) >>> (12 &&& 31))) + ((sr_rd N C (a + 0)) &&& 4095)) hx hb hr (fun t ht hW => ⟨⟨((3 : Int32) + ((sr_rd N C (a + 0)) >>> (12 &&& 31))) + ((sr_rd N C (a + 0)) &&& 4095), (), rfl, rfl, by rw [ht]; exact hP, va_K.moved hW.alike hK, hD⟩, hS.F ht⟩) hS.2.2 dX_sizeOf_20

set_option maxHeartbeats 4000000 in
set_option maxRecDepth 100000 in
theorem ct_X_replace (l : Launch) (D : va_G) (h rr cc : Nat) (cI : ClassId) (N : Nat) (R C : Nat → Int32) (li us ob sl go gi fr la re : Int32) (sz : Nat) (i v : Int32) (hN : N < 2 ^ 31) : sy_Mi l yX_replace (Cond.code yX_replace bX_replace 4 (some .int) :: sr_big) { frames := 1, cells := 0, slots := 0, locals := 22 } D vwC [(cI, .int)] [.ref h, .int i, .int v] (wX h rr cc cI N R C li us ob sl go gi fr la re) sz (sr_rd N C i) (wX h rr cc cI N R (sr_wr N C i v) li us ob sl go gi fr la re) 0 0 := by
  refine Met.ofW (cc := bX_replace) (maxL := 4) (ret := (some .int)) (by decide) rfl ?_
  intro p e s m args below meth c s₁ B hml hv
  obtain ⟨rfl, hsz, hP, hK, hD0⟩ := hv
  have hx := B.exec
  have hb := B.bytes
  have hr := B.returns
  have hbg : ∀ w ∈ sr_big, w.before _ s = true := fun w h => atoms_spec (ws := Cond.code yX_replace bX_replace 4 (some .int) :: sr_big) B.pre w (List.mem_cons_of_mem _ h)
  have hown : s.vm.findClass RX = some m.cls := findClass_of_methodNamed B.named
  have hlocks := B.notSynchronized
  subst hsz
  have hD := hD0.self (sz := s.heap.size)
  generalize hAe : va_A (wX h rr cc cI N R C li us ob sl go gi fr la re) s.heap.size = A at *
  have hA : ∀ q : Nat, s.heap.size ≤ q → A q := fun q h => by rw [← hAe]; exact Or.inr h
  have hS : va_S A s.heap s.heap [] := va_S.rf
  have hl := lv_entry ([.ref h, .int i, .int v]) (n := 4) (Nat.le_of_ble_eq_true rfl)
  rw [lg_entry_eq]
  generalize (lg_sl ([.ref h, .int i, .int v]) ++ List.replicate (4 - (lg_sl ([.ref h, .int i, .int v])).length) Slot.unset).toArray = ls at hl ⊢
  have hl : lv_has ls 4 [(0, .ref h), (1, .int i), (2, .int v)] := hl
  refine lv_aload_n hx hb dX_replace_0 rfl (lv_at hl 0 rfl) ?_
  refine lv_iload_n hx hb dX_replace_1 rfl (lv_at hl 1 rfl) ?_
  refine sy_cVi (wc := wX h rr cc cI N R C li us ob sl go gi fr la re) (wr := []) (w1 := wX h rr cc cI N R C li us ob sl go gi fr la re) (ci := 0) (q0 := 0) (As := [.int i]) (rest := []) ⟨hx, hb, hml, hown, hbg⟩ (ct_X_read l D h rr cc cI N R C li us ob sl go gi fr la re s.heap.size i hN) (cwV 1 hbg (bg_V bw_90 bw_91 bw_4 bw_34 bw_92) rfl rfl rfl (by decide +kernel) ⟨Nat.le_of_ble_eq_true rfl, Nat.le_of_ble_eq_true rfl⟩) hK [0] rfl hP hD hS hA [0, 1, 2] [] rfl rfl rfl rfl (by decide) rfl rfl rfl hl.1 rfl (by decide) dX_replace_2 ⟨Nat.le_of_ble_eq_true rfl, Nat.le_of_ble_eq_true rfl⟩ (fun H locs hP hD hS => ?_)
  have hP : va_P D vwC (wX h rr cc cI N R C li us ob sl go gi fr la re) H := hP
  have hD : va_D A (wX h rr cc cI N R C li us ob sl go gi fr la re) := hD
  refine lv_istore_n (lv' := [(3, .int (sr_rd N C i)), (0, .ref h), (1, .int i), (2, .int v)]) hx hb dX_replace_5 rfl hl (by decide) rfl (fun ls hl => ?_)
  refine lv_aload_n hx hb dX_replace_6 rfl (lv_at hl 1 rfl) ?_
  refine lv_iload_n hx hb dX_replace_7 rfl (lv_at hl 2 rfl) ?_
  refine lv_iload_n hx hb dX_replace_8 rfl (lv_at hl 3 rfl) ?_
  refine sy_cVv (wc := wX h rr cc cI N R C li us ob sl go gi fr la re) (wr := []) (w1 := wX h rr cc cI N R (sr_wr N C i v) li us ob sl go gi fr la re) (ci := 0) (q0 := 0) (As := [.int i, .int v]) (rest := []) ⟨hx, hb, hml, hown, hbg⟩ (ct_X_write l D h rr cc cI N R C li us ob sl go gi fr la re H.size i v hN) (cwV 2 hbg (bg_V bw_84 bw_85 bw_2 bw_34 bw_86) rfl rfl rfl (by decide +kernel) ⟨Nat.le_of_ble_eq_true rfl, Nat.le_of_ble_eq_true rfl⟩) hK [0] rfl hP hD hS hA [0, 1, 2] [] rfl rfl rfl rfl (by decide) rfl rfl rfl hl.1 rfl (by decide) dX_replace_9 ⟨Nat.le_of_ble_eq_true rfl, Nat.le_of_ble_eq_true rfl⟩ (fun H locs hP hD hS => ?_)
  have hP : va_P D vwC (wX h rr cc cI N R (sr_wr N C i v) li us ob sl go gi fr la re) H := hP
  have hD : va_D A (wX h rr cc cI N R (sr_wr N C i v) li us ob sl go gi fr la re) := hD
  refine lv_iload_n hx hb dX_replace_12 rfl (lv_at hl 0 rfl) ?_
  refine W.widen (k := 0) (n := 0) (Nat.le_of_ble_eq_true rfl) (Nat.le_of_ble_eq_true rfl) ?_
  exact W.iret (v := sr_rd N C i) hx hb hr (fun t ht hW => ⟨⟨sr_rd N C i, (), rfl, rfl, by rw [ht]; exact hP, va_K.moved hW.alike hK, hD⟩, hS.F ht⟩) hS.2.2 dX_replace_13
end
section
/-! CONTRACTS OF SlideRow: loops over the row (rows laid by wip/gen) -/
section XL
variable {p : Program} {l : Launch} {e : Env} {s : State} {m : MethodId} {args : Array Value} {below : List Frame} {meth : Method} {c : Code} {Q : State → Prop} {A : Nat → Prop} {D : va_G} {h rr cc : Nat} {cI : ClassId} {N : Nat} {R : Nat → Int32} {li us ob sl go gi : Int32}

set_option maxHeartbeats 4000000 in
set_option maxRecDepth 100000 in
theorem lp_X_clearCells {a k : Int32} {fr la re : Int32} (hx : p.tables.exec = Jvm.exec) (hb : c.code = bX_clearCells) (hml : c.maxLocals = 4) (hown : s.vm.findClass RX = some m.cls) (hbg : ∀ w ∈ sr_big, w.before args s = true) (hK : va_K D vwC [(cI, .int)] s) (hA : ∀ q : Nat, s.heap.size ≤ q → A q) (hN : N < 2 ^ 31) :
    ∀ (n j : Nat) (C : Nat → Int32) (H : Heap) (locs : List Loc) (ls : Array Slot), j + n = k.toNatClampNeg → va_P D vwC (wX h rr cc cI N R C li us ob sl go gi fr la re) H → va_D A (wX h rr cc cI N R C li us ob sl go gi fr la re) → va_S A s.heap H locs → lv_has ls 4 [(0, .ref h), (1, .int a), (2, .int k), (3, .int (nI j))] →
      (∀ (i' : Int32) (H : Heap) (locs : List Loc) (ls : Array Slot), va_P D vwC (wX h rr cc cI N R (sr_cc N a n j C) li us ob sl go gi fr la re) H → va_D A (wX h rr cc cI N R (sr_cc N a n j C) li us ob sl go gi fr la re) → va_S A s.heap H locs → lv_has ls 4 [(0, .ref h), (1, .int a), (2, .int k), (3, .int i')] → W p l e { frames := 1, cells := 0, slots := 0, locals := 22 } s m args below meth c H locs 0 0 Q (F0 m 21 ls [])) →
      W p l e { frames := 1, cells := 0, slots := 0, locals := 22 } s m args below meth c H locs 0 0 Q (F0 m 2 ls []) := by
  intro n
  induction n with
  | zero =>
    intro j C H locs ls hst hP hD hS hl kk
    refine lv_iload_n hx hb dX_clearCells_2 rfl (lv_at hl 3 rfl) ?_
    refine lv_iload_n hx hb dX_clearCells_3 rfl (lv_at hl 2 rfl) ?_
    refine lv_icmp_ge (tgt := 21) hx hb dX_clearCells_4 (by decide) (fun _ => ?_) (fun z => absurd ((sr_cle (by have := sr_clt k; omega)).mpr (by omega)) z)
    exact kk (nI j) _ _ _ hP hD hS (lv_sub hl [0, 1, 2, 3] rfl)
  | succ n ih =>
    intro j C H locs ls hst hP hD hS hl kk
    refine lv_iload_n hx hb dX_clearCells_2 rfl (lv_at hl 3 rfl) ?_
    refine lv_iload_n hx hb dX_clearCells_3 rfl (lv_at hl 2 rfl) ?_
    refine lv_icmp_ge (tgt := 21) hx hb dX_clearCells_4 (by decide) (fun z => absurd z (fun z => absurd ((sr_cle (by have := sr_clt k; omega)).mp z) (by omega))) (fun _ => ?_)
    refine lv_aload_n hx hb dX_clearCells_7 rfl (lv_at hl 0 rfl) ?_
    refine lv_iload_n hx hb dX_clearCells_8 rfl (lv_at hl 1 rfl) ?_
    refine lv_iload_n hx hb dX_clearCells_9 rfl (lv_at hl 3 rfl) ?_
    refine lv_iadd hx hb dX_clearCells_10 ?_
    refine lv_iconst (v := 0) hx hb dX_clearCells_11 (by decide) ?_
    refine sy_cVv (wc := wX h rr cc cI N R C li us ob sl go gi fr la re) (wr := []) (w1 := wX h rr cc cI N R (sr_wr N C (a + (nI j)) 0) li us ob sl go gi fr la re) (ci := 0) (q0 := 0) (As := [.int (a + (nI j)), .int 0]) (rest := []) ⟨hx, hb, hml, hown, hbg⟩ (ct_X_write l D h rr cc cI N R C li us ob sl go gi fr la re H.size (a + (nI j)) 0 hN) (cwV 2 hbg (bg_V bw_84 bw_85 bw_2 bw_34 bw_86) rfl rfl rfl (by decide +kernel) ⟨Nat.le_of_ble_eq_true rfl, Nat.le_of_ble_eq_true rfl⟩) hK [0] rfl hP hD hS hA [0, 1, 2] [] rfl rfl rfl rfl (by decide) rfl rfl rfl hl.1 rfl (Nat.le_of_ble_eq_true rfl) dX_clearCells_12 ⟨Nat.le_of_ble_eq_true rfl, Nat.le_of_ble_eq_true rfl⟩ (fun H locs hP hD hS => ?_)
    have hP : va_P D vwC (wX h rr cc cI N R (sr_wr N C (a + (nI j)) 0) li us ob sl go gi fr la re) H := hP
    have hD : va_D A (wX h rr cc cI N R (sr_wr N C (a + (nI j)) 0) li us ob sl go gi fr la re) := hD
    refine lv_iinc (v := nI (j + 1)) (lv' := [(3, .int (nI (j + 1))), (0, .ref h), (1, .int a), (2, .int k)]) hx hb dX_clearCells_15 hl (k := 3) rfl (nI_1 j) (by decide) rfl (fun ls hl => ?_)
    refine lv_goto (tgt := 2) hx hb dX_clearCells_18 (by decide) ?_
    exact ih (j + 1) (sr_wr N C (a + (nI j)) 0) _ _ _ (by omega) hP hD hS (lv_sub hl [1, 2, 3, 0] rfl) kk

set_option maxHeartbeats 4000000 in
set_option maxRecDepth 100000 in
theorem ct_X_clearCells (l : Launch) (D : va_G) (h rr cc : Nat) (cI : ClassId) (N : Nat) (R C : Nat → Int32) (li us ob sl go gi fr la re : Int32) (sz : Nat) (a k : Int32) (hN : N < 2 ^ 31) : sy_Mv l yX_clearCells (Cond.code yX_clearCells bX_clearCells 4 none :: sr_big) { frames := 1, cells := 0, slots := 0, locals := 22 } D vwC [(cI, .int)] [.ref h, .int a, .int k] (wX h rr cc cI N R C li us ob sl go gi fr la re) sz (wX h rr cc cI N R (sr_cc N a k.toNatClampNeg 0 C) li us ob sl go gi fr la re) 0 0 := by
  refine Met.ofW (cc := bX_clearCells) (maxL := 4) (ret := none) (by decide) rfl ?_
  intro p e s m args below meth c s₁ B hml hv
  obtain ⟨rfl, hsz, hP, hK, hD0⟩ := hv
  have hx := B.exec
  have hb := B.bytes
  have hr := B.returns
  have hbg : ∀ w ∈ sr_big, w.before _ s = true := fun w h => atoms_spec (ws := Cond.code yX_clearCells bX_clearCells 4 none :: sr_big) B.pre w (List.mem_cons_of_mem _ h)
  have hown : s.vm.findClass RX = some m.cls := findClass_of_methodNamed B.named
  have hlocks := B.notSynchronized
  subst hsz
  have hD := hD0.self (sz := s.heap.size)
  generalize hAe : va_A (wX h rr cc cI N R C li us ob sl go gi fr la re) s.heap.size = A at *
  have hA : ∀ q : Nat, s.heap.size ≤ q → A q := fun q h => by rw [← hAe]; exact Or.inr h
  have hS : va_S A s.heap s.heap [] := va_S.rf
  have hl := lv_entry ([.ref h, .int a, .int k]) (n := 4) (Nat.le_of_ble_eq_true rfl)
  rw [lg_entry_eq]
  generalize (lg_sl ([.ref h, .int a, .int k]) ++ List.replicate (4 - (lg_sl ([.ref h, .int a, .int k])).length) Slot.unset).toArray = ls at hl ⊢
  have hl : lv_has ls 4 [(0, .ref h), (1, .int a), (2, .int k)] := hl
  refine lv_iconst (v := 0) hx hb dX_clearCells_0 (by decide) ?_
  refine lv_istore_n (lv' := [(3, .int 0), (0, .ref h), (1, .int a), (2, .int k)]) hx hb dX_clearCells_1 rfl hl (by decide) rfl (fun ls hl => ?_)
  refine lp_X_clearCells hx hb hml hown hbg hK hA hN k.toNatClampNeg 0 C _ _ _ (by simp) hP hD hS (lv_sub hl [1, 2, 3, 0] rfl) ?_
  intro i' H locs ls hP hD hS hl
  refine W.widen (k := 0) (n := 0) (Nat.le_of_ble_eq_true rfl) (Nat.le_of_ble_eq_true rfl) ?_
  exact W.vret hx hb hr (fun t ht hW => ⟨⟨(), rfl, trivial, by rw [ht]; exact hP, va_K.moved hW.alike hK, hD⟩, hS.F ht⟩) hS.2.2 dX_clearCells_21

set_option maxHeartbeats 4000000 in
set_option maxRecDepth 100000 in
theorem lp_X_clearLinks {fr la re : Int32} (hx : p.tables.exec = Jvm.exec) (hb : c.code = bX_clearLinks) (hml : c.maxLocals = 3) (hown : s.vm.findClass RX = some m.cls) (hbg : ∀ w ∈ sr_big, w.before args s = true) (hK : va_K D vwC [(cI, .int)] s) (hA : ∀ q : Nat, s.heap.size ≤ q → A q) (hN : N < 2 ^ 31) :
    ∀ (n j : Nat) (C : Nat → Int32) (a : Int32) (H : Heap) (locs : List Loc) (ls : Array Slot), j + n = ob.toNatClampNeg → va_P D vwC (wX h rr cc cI N R C li us ob sl go gi fr la re) H → va_D A (wX h rr cc cI N R C li us ob sl go gi fr la re) → va_S A s.heap H locs → lv_has ls 3 [(0, .ref h), (1, .int a), (2, .int (nI j))] →
      (∀ (a' i' : Int32) (H : Heap) (locs : List Loc) (ls : Array Slot), va_P D vwC (wX h rr cc cI N R (sr_clr N n C a) li us ob sl go gi fr la re) H → va_D A (wX h rr cc cI N R (sr_clr N n C a) li us ob sl go gi fr la re) → va_S A s.heap H locs → lv_has ls 3 [(0, .ref h), (1, .int a'), (2, .int i')] → W p l e { frames := 2, cells := 0, slots := 0, locals := 43 } s m args below meth c H locs 0 0 Q (F0 m 34 ls [])) →
      W p l e { frames := 2, cells := 0, slots := 0, locals := 43 } s m args below meth c H locs 0 0 Q (F0 m 4 ls []) := by
  intro n
  induction n with
  | zero =>
    intro j C a H locs ls hst hP hD hS hl kk
    refine lv_iload_n hx hb dX_clearLinks_4 rfl (lv_at hl 2 rfl) ?_
    refine lv_aload_n hx hb dX_clearLinks_5 rfl (lv_at hl 0 rfl) ?_
    refine va_get (D := D) (ci := 0) (v := .int ob) (C := RX) (T := TX) (N := 11) hx hb hbg bg_X hown hK hP 0 rfl rfl 4 (by decide) (hbg _ bw_55) (fun _ h9 => h9) rfl dX_clearLinks_6 ?_
    refine lv_icmp_ge (tgt := 34) hx hb dX_clearLinks_9 (by decide) (fun _ => ?_) (fun z => absurd ((sr_cle (by have := sr_clt ob; omega)).mpr (by omega)) z)
    exact kk a (nI j) _ _ _ hP hD hS (lv_sub hl [0, 1, 2] rfl)
  | succ n ih =>
    intro j C a H locs ls hst hP hD hS hl kk
    refine lv_iload_n hx hb dX_clearLinks_4 rfl (lv_at hl 2 rfl) ?_
    refine lv_aload_n hx hb dX_clearLinks_5 rfl (lv_at hl 0 rfl) ?_
    refine va_get (D := D) (ci := 0) (v := .int ob) (C := RX) (T := TX) (N := 11) hx hb hbg bg_X hown hK hP 0 rfl rfl 4 (by decide) (hbg _ bw_55) (fun _ h9 => h9) rfl dX_clearLinks_6 ?_
    refine lv_icmp_ge (tgt := 34) hx hb dX_clearLinks_9 (by decide) (fun z => absurd z (fun z => absurd ((sr_cle (by have := sr_clt ob; omega)).mp z) (by omega))) (fun _ => ?_)
    refine lv_aload_n hx hb dX_clearLinks_12 rfl (lv_at hl 0 rfl) ?_
    refine lv_iload_n hx hb dX_clearLinks_13 rfl (lv_at hl 1 rfl) ?_
    refine lv_iconst (v := 2) hx hb dX_clearLinks_14 (by decide) ?_
    refine lv_iadd hx hb dX_clearLinks_15 ?_
    refine lv_iconst (v := 0) hx hb dX_clearLinks_16 (by decide) ?_
    refine sy_cVv (wc := wX h rr cc cI N R C li us ob sl go gi fr la re) (wr := []) (w1 := wX h rr cc cI N R (sr_wr N C (a + 2) 0) li us ob sl go gi fr la re) (ci := 0) (q0 := 0) (As := [.int (a + 2), .int 0]) (rest := []) ⟨hx, hb, hml, hown, hbg⟩ (ct_X_write l D h rr cc cI N R C li us ob sl go gi fr la re H.size (a + 2) 0 hN) (cwV 2 hbg (bg_V bw_84 bw_85 bw_2 bw_34 bw_86) rfl rfl rfl (by decide +kernel) ⟨Nat.le_of_ble_eq_true rfl, Nat.le_of_ble_eq_true rfl⟩) hK [0] rfl hP hD hS hA [0, 1, 2] [] rfl rfl rfl rfl (by decide) rfl rfl rfl hl.1 rfl (Nat.le_of_ble_eq_true rfl) dX_clearLinks_17 ⟨Nat.le_of_ble_eq_true rfl, Nat.le_of_ble_eq_true rfl⟩ (fun H locs hP hD hS => ?_)
    have hP : va_P D vwC (wX h rr cc cI N R (sr_wr N C (a + 2) 0) li us ob sl go gi fr la re) H := hP
    have hD : va_D A (wX h rr cc cI N R (sr_wr N C (a + 2) 0) li us ob sl go gi fr la re) := hD
    refine lv_iload_n hx hb dX_clearLinks_20 rfl (lv_at hl 1 rfl) ?_
    refine lv_aload_n hx hb dX_clearLinks_21 rfl (lv_at hl 0 rfl) ?_
    refine lv_iload_n hx hb dX_clearLinks_22 rfl (lv_at hl 1 rfl) ?_
    refine sy_cVi (wc := wX h rr cc cI N R (sr_wr N C (a + 2) 0) li us ob sl go gi fr la re) (wr := []) (w1 := wX h rr cc cI N R (sr_wr N C (a + 2) 0) li us ob sl go gi fr la re) (ci := 0) (q0 := 0) (As := [.int a]) (rest := [.int a]) ⟨hx, hb, hml, hown, hbg⟩ (ct_X_sizeOf l D h rr cc cI N R (sr_wr N C (a + 2) 0) li us ob sl go gi fr la re H.size a hN) (cwV 1 hbg (bg_V bw_87 bw_88 bw_3 bw_34 bw_89) rfl rfl rfl (by decide +kernel) ⟨Nat.le_of_ble_eq_true rfl, Nat.le_of_ble_eq_true rfl⟩) hK [0] rfl hP hD hS hA [0, 1, 2] [] rfl rfl rfl rfl (by decide) rfl rfl rfl hl.1 rfl (Nat.le_of_ble_eq_true rfl) dX_clearLinks_23 ⟨Nat.le_of_ble_eq_true rfl, Nat.le_of_ble_eq_true rfl⟩ (fun H locs hP hD hS => ?_)
    have hP : va_P D vwC (wX h rr cc cI N R (sr_wr N C (a + 2) 0) li us ob sl go gi fr la re) H := hP
    have hD : va_D A (wX h rr cc cI N R (sr_wr N C (a + 2) 0) li us ob sl go gi fr la re) := hD
    refine lv_iadd hx hb dX_clearLinks_26 ?_
    refine lv_istore_n (lv' := [(1, .int (a + (sr_si N (sr_wr N C (a + 2) 0) a))), (0, .ref h), (2, .int (nI j))]) hx hb dX_clearLinks_27 rfl hl (by decide) rfl (fun ls hl => ?_)
    refine lv_iinc (v := nI (j + 1)) (lv' := [(2, .int (nI (j + 1))), (1, .int (a + (sr_si N (sr_wr N C (a + 2) 0) a))), (0, .ref h)]) hx hb dX_clearLinks_28 hl (k := 2) rfl (nI_1 j) (by decide) rfl (fun ls hl => ?_)
    refine lv_goto (tgt := 4) hx hb dX_clearLinks_31 (by decide) ?_
    exact ih (j + 1) (sr_wr N C (a + 2) 0) (a + (sr_si N (sr_wr N C (a + 2) 0) a)) _ _ _ (by omega) hP hD hS (lv_sub hl [2, 1, 0] rfl) kk

set_option maxHeartbeats 4000000 in
set_option maxRecDepth 100000 in
theorem ct_X_clearLinks (l : Launch) (D : va_G) (h rr cc : Nat) (cI : ClassId) (N : Nat) (R C : Nat → Int32) (li us ob sl go gi fr la re : Int32) (sz : Nat) (hN : N < 2 ^ 31) : sy_Mv l yX_clearLinks (Cond.code yX_clearLinks bX_clearLinks 3 none :: sr_big) { frames := 2, cells := 0, slots := 0, locals := 43 } D vwC [(cI, .int)] [.ref h] (wX h rr cc cI N R C li us ob sl go gi fr la re) sz (wX h rr cc cI N R (sr_clr N ob.toNatClampNeg C 1) li us ob sl go gi fr la re) 0 0 := by
  refine Met.ofW (cc := bX_clearLinks) (maxL := 3) (ret := none) (by decide) rfl ?_
  intro p e s m args below meth c s₁ B hml hv
  obtain ⟨rfl, hsz, hP, hK, hD0⟩ := hv
  have hx := B.exec
  have hb := B.bytes
  have hr := B.returns
  have hbg : ∀ w ∈ sr_big, w.before _ s = true := fun w h => atoms_spec (ws := Cond.code yX_clearLinks bX_clearLinks 3 none :: sr_big) B.pre w (List.mem_cons_of_mem _ h)
  have hown : s.vm.findClass RX = some m.cls := findClass_of_methodNamed B.named
  have hlocks := B.notSynchronized
  subst hsz
  have hD := hD0.self (sz := s.heap.size)
  generalize hAe : va_A (wX h rr cc cI N R C li us ob sl go gi fr la re) s.heap.size = A at *
  have hA : ∀ q : Nat, s.heap.size ≤ q → A q := fun q h => by rw [← hAe]; exact Or.inr h
  have hS : va_S A s.heap s.heap [] := va_S.rf
  have hl := lv_entry ([.ref h]) (n := 3) (Nat.le_of_ble_eq_true rfl)
  rw [lg_entry_eq]
  generalize (lg_sl ([.ref h]) ++ List.replicate (3 - (lg_sl ([.ref h])).length) Slot.unset).toArray = ls at hl ⊢
  have hl : lv_has ls 3 [(0, .ref h)] := hl
  refine lv_iconst (v := 1) hx hb dX_clearLinks_0 (by decide) ?_
  refine lv_istore_n (lv' := [(1, .int 1), (0, .ref h)]) hx hb dX_clearLinks_1 rfl hl (by decide) rfl (fun ls hl => ?_)
  refine lv_iconst (v := 0) hx hb dX_clearLinks_2 (by decide) ?_
  refine lv_istore_n (lv' := [(2, .int 0), (1, .int 1), (0, .ref h)]) hx hb dX_clearLinks_3 rfl hl (by decide) rfl (fun ls hl => ?_)
  refine lp_X_clearLinks hx hb hml hown hbg hK hA hN ob.toNatClampNeg 0 C 1 _ _ _ (by simp) hP hD hS (lv_sub hl [2, 1, 0] rfl) ?_
  intro a' i' H locs ls hP hD hS hl
  refine W.widen (k := 0) (n := 0) (Nat.le_of_ble_eq_true rfl) (Nat.le_of_ble_eq_true rfl) ?_
  exact W.vret hx hb hr (fun t ht hW => ⟨⟨(), rfl, trivial, by rw [ht]; exact hP, va_K.moved hW.alike hK, hD⟩, hS.F ht⟩) hS.2.2 dX_clearLinks_34

set_option maxHeartbeats 4000000 in
set_option maxRecDepth 100000 in
theorem lp_X_isObject {C : Nat → Int32} {x : Int32} {fr la re : Int32} (hx : p.tables.exec = Jvm.exec) (hb : c.code = bX_isObject) (hml : c.maxLocals = 4) (hown : s.vm.findClass RX = some m.cls) (hbg : ∀ w ∈ sr_big, w.before args s = true) (hK : va_K D vwC [(cI, .int)] s) (hA : ∀ q : Nat, s.heap.size ≤ q → A q) (hN : N < 2 ^ 31) :
    ∀ (n j : Nat) (a : Int32) (H : Heap) (locs : List Loc) (ls : Array Slot), j + n = ob.toNatClampNeg → va_P D vwC (wX h rr cc cI N R C li us ob sl go gi fr la re) H → va_D A (wX h rr cc cI N R C li us ob sl go gi fr la re) → va_S A s.heap H locs → lv_has ls 4 [(0, .ref h), (1, .int x), (2, .int a), (3, .int (nI j))] →
      (∀ (a' i' : Int32) (H : Heap) (locs : List Loc) (ls : Array Slot), sr_isO N C x n a = false → va_P D vwC (wX h rr cc cI N R C li us ob sl go gi fr la re) H → va_D A (wX h rr cc cI N R C li us ob sl go gi fr la re) → va_S A s.heap H locs → lv_has ls 4 [(0, .ref h), (1, .int x), (2, .int a'), (3, .int i')] → W p l e { frames := 2, cells := 0, slots := 0, locals := 43 } s m args below meth c H locs 0 0 Q (F0 m 38 ls [])) →
      (∀ (a' i' : Int32) (H : Heap) (locs : List Loc) (ls : Array Slot), sr_isO N C x n a = true → va_P D vwC (wX h rr cc cI N R C li us ob sl go gi fr la re) H → va_D A (wX h rr cc cI N R C li us ob sl go gi fr la re) → va_S A s.heap H locs → lv_has ls 4 [(0, .ref h), (1, .int x), (2, .int a'), (3, .int i')] → W p l e { frames := 2, cells := 0, slots := 0, locals := 43 } s m args below meth c H locs 0 0 Q (F0 m 22 ls [])) →
      W p l e { frames := 2, cells := 0, slots := 0, locals := 43 } s m args below meth c H locs 0 0 Q (F0 m 4 ls []) := by
  intro n
  induction n with
  | zero =>
    intro j a H locs ls hst hP hD hS hl k38 k22
    refine lv_iload_n hx hb dX_isObject_4 rfl (lv_at hl 3 rfl) ?_
    refine lv_aload_n hx hb dX_isObject_5 rfl (lv_at hl 0 rfl) ?_
    refine va_get (D := D) (ci := 0) (v := .int ob) (C := RX) (T := TX) (N := 11) hx hb hbg bg_X hown hK hP 0 rfl rfl 4 (by decide) (hbg _ bw_55) (fun _ h9 => h9) rfl dX_isObject_6 ?_
    refine lv_icmp_ge (tgt := 38) hx hb dX_isObject_9 (by decide) (fun _ => ?_) (fun z => absurd ((sr_cle (by have := sr_clt ob; omega)).mpr (by omega)) z)
    exact k38 a (nI j) _ _ _ rfl hP hD hS (lv_sub hl [0, 1, 2, 3] rfl)
  | succ n ih =>
    intro j a H locs ls hst hP hD hS hl k38 k22
    refine lv_iload_n hx hb dX_isObject_4 rfl (lv_at hl 3 rfl) ?_
    refine lv_aload_n hx hb dX_isObject_5 rfl (lv_at hl 0 rfl) ?_
    refine va_get (D := D) (ci := 0) (v := .int ob) (C := RX) (T := TX) (N := 11) hx hb hbg bg_X hown hK hP 0 rfl rfl 4 (by decide) (hbg _ bw_55) (fun _ h9 => h9) rfl dX_isObject_6 ?_
    refine lv_icmp_ge (tgt := 38) hx hb dX_isObject_9 (by decide) (fun z => absurd z (fun z => absurd ((sr_cle (by have := sr_clt ob; omega)).mp z) (by omega))) (fun _ => ?_)
    refine lv_iload_n hx hb dX_isObject_12 rfl (lv_at hl 2 rfl) ?_
    refine lv_iload_n hx hb dX_isObject_13 rfl (lv_at hl 1 rfl) ?_
    refine lv_icmp_gt (tgt := 38) hx hb dX_isObject_14 (by decide) (fun c_14 => ?_) (fun c_14 => ?_)
    · exact k38 a (nI j) _ _ _ (by simp only [sr_isO, c_14, ↓reduceIte]) hP hD hS (lv_sub hl [0, 1, 2, 3] rfl)
    · refine lv_iload_n hx hb dX_isObject_17 rfl (lv_at hl 2 rfl) ?_
      refine lv_iload_n hx hb dX_isObject_18 rfl (lv_at hl 1 rfl) ?_
      refine lv_icmp_ne (tgt := 24) hx hb dX_isObject_19 (by decide) (fun c_19 => ?_) (fun c_19 => ?_)
      · refine lv_iload_n hx hb dX_isObject_24 rfl (lv_at hl 2 rfl) ?_
        refine lv_aload_n hx hb dX_isObject_25 rfl (lv_at hl 0 rfl) ?_
        refine lv_iload_n hx hb dX_isObject_26 rfl (lv_at hl 2 rfl) ?_
        refine sy_cVi (wc := wX h rr cc cI N R C li us ob sl go gi fr la re) (wr := []) (w1 := wX h rr cc cI N R C li us ob sl go gi fr la re) (ci := 0) (q0 := 0) (As := [.int a]) (rest := [.int a]) ⟨hx, hb, hml, hown, hbg⟩ (ct_X_sizeOf l D h rr cc cI N R C li us ob sl go gi fr la re H.size a hN) (cwV 1 hbg (bg_V bw_87 bw_88 bw_3 bw_34 bw_89) rfl rfl rfl (by decide +kernel) ⟨Nat.le_of_ble_eq_true rfl, Nat.le_of_ble_eq_true rfl⟩) hK [0] rfl hP hD hS hA [0, 1, 2] [] rfl rfl rfl rfl (by decide) rfl rfl rfl hl.1 rfl (Nat.le_of_ble_eq_true rfl) dX_isObject_27 ⟨Nat.le_of_ble_eq_true rfl, Nat.le_of_ble_eq_true rfl⟩ (fun H locs hP hD hS => ?_)
        have hP : va_P D vwC (wX h rr cc cI N R C li us ob sl go gi fr la re) H := hP
        have hD : va_D A (wX h rr cc cI N R C li us ob sl go gi fr la re) := hD
        refine lv_iadd hx hb dX_isObject_30 ?_
        refine lv_istore_n (lv' := [(2, .int (a + (sr_si N C a))), (0, .ref h), (1, .int x), (3, .int (nI j))]) hx hb dX_isObject_31 rfl hl (by decide) rfl (fun ls hl => ?_)
        refine lv_iinc (v := nI (j + 1)) (lv' := [(3, .int (nI (j + 1))), (2, .int (a + (sr_si N C a))), (0, .ref h), (1, .int x)]) hx hb dX_isObject_32 hl (k := 3) rfl (nI_1 j) (by decide) rfl (fun ls hl => ?_)
        refine lv_goto (tgt := 4) hx hb dX_isObject_35 (by decide) ?_
        have es : sr_isO N C x (n + 1) a = sr_isO N C x n (a + sr_si N C a) := by simp only [sr_isO, c_14, c_19, ↓reduceIte]
        rw [es] at k38 k22
        exact ih (j + 1) (a + (sr_si N C a)) _ _ _ (by omega) hP hD hS (lv_sub hl [2, 3, 1, 0] rfl) k38 k22
      · exact k22 a (nI j) _ _ _ (by unfold sr_isO; rw [if_neg c_14, if_pos c_19]) hP hD hS (lv_sub hl [0, 1, 2, 3] rfl)

set_option maxHeartbeats 4000000 in
set_option maxRecDepth 100000 in
theorem ct_X_isObject (l : Launch) (D : va_G) (h rr cc : Nat) (cI : ClassId) (N : Nat) (R C : Nat → Int32) (li us ob sl go gi fr la re : Int32) (sz : Nat) (x : Int32) (hN : N < 2 ^ 31) : sy_Mi l yX_isObject (Cond.code yX_isObject bX_isObject 4 (some .boolean) :: sr_big) { frames := 2, cells := 0, slots := 0, locals := 43 } D vwC [(cI, .int)] [.ref h, .int x] (wX h rr cc cI N R C li us ob sl go gi fr la re) sz (if sr_isO N C x ob.toNatClampNeg 1 = true then 1 else 0) (wX h rr cc cI N R C li us ob sl go gi fr la re) 0 0 := by
  refine Met.ofW (cc := bX_isObject) (maxL := 4) (ret := (some .boolean)) (by decide) rfl ?_
  intro p e s m args below meth c s₁ B hml hv
  obtain ⟨rfl, hsz, hP, hK, hD0⟩ := hv
  have hx := B.exec
  have hb := B.bytes
  have hr := B.returns
  have hbg : ∀ w ∈ sr_big, w.before _ s = true := fun w h => atoms_spec (ws := Cond.code yX_isObject bX_isObject 4 (some .boolean) :: sr_big) B.pre w (List.mem_cons_of_mem _ h)
  have hown : s.vm.findClass RX = some m.cls := findClass_of_methodNamed B.named
  have hlocks := B.notSynchronized
  subst hsz
  have hD := hD0.self (sz := s.heap.size)
  generalize hAe : va_A (wX h rr cc cI N R C li us ob sl go gi fr la re) s.heap.size = A at *
  have hA : ∀ q : Nat, s.heap.size ≤ q → A q := fun q h => by rw [← hAe]; exact Or.inr h
  have hS : va_S A s.heap s.heap [] := va_S.rf
  have hl := lv_entry ([.ref h, .int x]) (n := 4) (Nat.le_of_ble_eq_true rfl)
  rw [lg_entry_eq]
  generalize (lg_sl ([.ref h, .int x]) ++ List.replicate (4 - (lg_sl ([.ref h, .int x])).length) Slot.unset).toArray = ls at hl ⊢
  have hl : lv_has ls 4 [(0, .ref h), (1, .int x)] := hl
  refine lv_iconst (v := 1) hx hb dX_isObject_0 (by decide) ?_
  refine lv_istore_n (lv' := [(2, .int 1), (0, .ref h), (1, .int x)]) hx hb dX_isObject_1 rfl hl (by decide) rfl (fun ls hl => ?_)
  refine lv_iconst (v := 0) hx hb dX_isObject_2 (by decide) ?_
  refine lv_istore_n (lv' := [(3, .int 0), (2, .int 1), (0, .ref h), (1, .int x)]) hx hb dX_isObject_3 rfl hl (by decide) rfl (fun ls hl => ?_)
  refine lp_X_isObject hx hb hml hown hbg hK hA hN ob.toNatClampNeg 0 1 _ _ _ (by simp) hP hD hS (lv_sub hl [2, 3, 1, 0] rfl) ?_ ?_
  · intro a' i' H locs ls hc hP hD hS hl
    refine lv_iconst (v := 0) hx hb dX_isObject_38 (by decide) ?_
    refine W.widen (k := 0) (n := 0) (Nat.le_of_ble_eq_true rfl) (Nat.le_of_ble_eq_true rfl) ?_
    exact W.zret (ty := .boolean) (v := 0) hx hb hr rfl (fun t ht hW => ⟨⟨0, (), rfl, (by rw [hc]; rfl), by rw [ht]; exact hP, va_K.moved hW.alike hK, hD⟩, hS.F ht⟩) hS.2.2 dX_isObject_39
  · intro a' i' H locs ls hc hP hD hS hl
    refine lv_iconst (v := 1) hx hb dX_isObject_22 (by decide) ?_
    refine W.widen (k := 0) (n := 0) (Nat.le_of_ble_eq_true rfl) (Nat.le_of_ble_eq_true rfl) ?_
    exact W.zret (ty := .boolean) (v := 1) hx hb hr rfl (fun t ht hW => ⟨⟨1, (), rfl, (by rw [hc]; rfl), by rw [ht]; exact hP, va_K.moved hW.alike hK, hD⟩, hS.F ht⟩) hS.2.2 dX_isObject_23

set_option maxHeartbeats 4000000 in
set_option maxRecDepth 100000 in
theorem lp_X_find {C : Nat → Int32} {x : Int32} {fr la re : Int32} (hx : p.tables.exec = Jvm.exec) (hb : c.code = bX_find) (hml : c.maxLocals = 4) (hown : s.vm.findClass RX = some m.cls) (hbg : ∀ w ∈ sr_big, w.before args s = true) (hK : va_K D vwC [(cI, .int)] s) (hA : ∀ q : Nat, s.heap.size ≤ q → A q) (hN : N < 2 ^ 31) :
    ∀ (n j : Nat) (a : Int32) (H : Heap) (locs : List Loc) (ls : Array Slot), j + n = ob.toNatClampNeg → va_P D vwC (wX h rr cc cI N R C li us ob sl go gi fr la re) H → va_D A (wX h rr cc cI N R C li us ob sl go gi fr la re) → va_S A s.heap H locs → lv_has ls 4 [(0, .ref h), (1, .int x), (2, .int a), (3, .int (nI j))] →
      (∀ (a' i' : Int32) (H : Heap) (locs : List Loc) (ls : Array Slot), sr_fn N C x n a = 0 → va_P D vwC (wX h rr cc cI N R C li us ob sl go gi fr la re) H → va_D A (wX h rr cc cI N R C li us ob sl go gi fr la re) → va_S A s.heap H locs → lv_has ls 4 [(0, .ref h), (1, .int x), (2, .int a'), (3, .int i')] → W p l e { frames := 2, cells := 0, slots := 0, locals := 43 } s m args below meth c H locs 0 0 Q (F0 m 55 ls [])) →
      (∀ (a' i' : Int32) (H : Heap) (locs : List Loc) (ls : Array Slot), sr_fn N C x n a = a' → va_P D vwC (wX h rr cc cI N R C li us ob sl go gi fr la re) H → va_D A (wX h rr cc cI N R C li us ob sl go gi fr la re) → va_S A s.heap H locs → lv_has ls 4 [(0, .ref h), (1, .int x), (2, .int a'), (3, .int i')] → W p l e { frames := 2, cells := 0, slots := 0, locals := 43 } s m args below meth c H locs 0 0 Q (F0 m 39 ls [])) →
      W p l e { frames := 2, cells := 0, slots := 0, locals := 43 } s m args below meth c H locs 0 0 Q (F0 m 18 ls []) := by
  intro n
  induction n with
  | zero =>
    intro j a H locs ls hst hP hD hS hl k55 k39
    refine lv_iload_n hx hb dX_find_18 rfl (lv_at hl 3 rfl) ?_
    refine lv_aload_n hx hb dX_find_19 rfl (lv_at hl 0 rfl) ?_
    refine va_get (D := D) (ci := 0) (v := .int ob) (C := RX) (T := TX) (N := 11) hx hb hbg bg_X hown hK hP 0 rfl rfl 4 (by decide) (hbg _ bw_55) (fun _ h9 => h9) rfl dX_find_20 ?_
    refine lv_icmp_ge (tgt := 55) hx hb dX_find_23 (by decide) (fun _ => ?_) (fun z => absurd ((sr_cle (by have := sr_clt ob; omega)).mpr (by omega)) z)
    exact k55 a (nI j) _ _ _ rfl hP hD hS (lv_sub hl [0, 1, 2, 3] rfl)
  | succ n ih =>
    intro j a H locs ls hst hP hD hS hl k55 k39
    refine lv_iload_n hx hb dX_find_18 rfl (lv_at hl 3 rfl) ?_
    refine lv_aload_n hx hb dX_find_19 rfl (lv_at hl 0 rfl) ?_
    refine va_get (D := D) (ci := 0) (v := .int ob) (C := RX) (T := TX) (N := 11) hx hb hbg bg_X hown hK hP 0 rfl rfl 4 (by decide) (hbg _ bw_55) (fun _ h9 => h9) rfl dX_find_20 ?_
    refine lv_icmp_ge (tgt := 55) hx hb dX_find_23 (by decide) (fun z => absurd z (fun z => absurd ((sr_cle (by have := sr_clt ob; omega)).mp z) (by omega))) (fun _ => ?_)
    refine lv_aload_n hx hb dX_find_26 rfl (lv_at hl 0 rfl) ?_
    refine lv_iload_n hx hb dX_find_27 rfl (lv_at hl 2 rfl) ?_
    refine lv_iconst (v := 1) hx hb dX_find_28 (by decide) ?_
    refine lv_iadd hx hb dX_find_29 ?_
    refine sy_cVi (wc := wX h rr cc cI N R C li us ob sl go gi fr la re) (wr := []) (w1 := wX h rr cc cI N R C li us ob sl go gi fr la re) (ci := 0) (q0 := 0) (As := [.int (a + 1)]) (rest := []) ⟨hx, hb, hml, hown, hbg⟩ (ct_X_read l D h rr cc cI N R C li us ob sl go gi fr la re H.size (a + 1) hN) (cwV 1 hbg (bg_V bw_90 bw_91 bw_4 bw_34 bw_92) rfl rfl rfl (by decide +kernel) ⟨Nat.le_of_ble_eq_true rfl, Nat.le_of_ble_eq_true rfl⟩) hK [0] rfl hP hD hS hA [0, 1, 2] [] rfl rfl rfl rfl (by decide) rfl rfl rfl hl.1 rfl (Nat.le_of_ble_eq_true rfl) dX_find_30 ⟨Nat.le_of_ble_eq_true rfl, Nat.le_of_ble_eq_true rfl⟩ (fun H locs hP hD hS => ?_)
    have hP : va_P D vwC (wX h rr cc cI N R C li us ob sl go gi fr la re) H := hP
    have hD : va_D A (wX h rr cc cI N R C li us ob sl go gi fr la re) := hD
    refine lv_iconst (v := 1) hx hb dX_find_33 (by decide) ?_
    refine lv_isub hx hb dX_find_34 ?_
    refine lv_iload_n hx hb dX_find_35 rfl (lv_at hl 1 rfl) ?_
    refine lv_icmp_ne (tgt := 41) hx hb dX_find_36 (by decide) (fun c_36 => ?_) (fun c_36 => ?_)
    · refine lv_iload_n hx hb dX_find_41 rfl (lv_at hl 2 rfl) ?_
      refine lv_aload_n hx hb dX_find_42 rfl (lv_at hl 0 rfl) ?_
      refine lv_iload_n hx hb dX_find_43 rfl (lv_at hl 2 rfl) ?_
      refine sy_cVi (wc := wX h rr cc cI N R C li us ob sl go gi fr la re) (wr := []) (w1 := wX h rr cc cI N R C li us ob sl go gi fr la re) (ci := 0) (q0 := 0) (As := [.int a]) (rest := [.int a]) ⟨hx, hb, hml, hown, hbg⟩ (ct_X_sizeOf l D h rr cc cI N R C li us ob sl go gi fr la re H.size a hN) (cwV 1 hbg (bg_V bw_87 bw_88 bw_3 bw_34 bw_89) rfl rfl rfl (by decide +kernel) ⟨Nat.le_of_ble_eq_true rfl, Nat.le_of_ble_eq_true rfl⟩) hK [0] rfl hP hD hS hA [0, 1, 2] [] rfl rfl rfl rfl (by decide) rfl rfl rfl hl.1 rfl (Nat.le_of_ble_eq_true rfl) dX_find_44 ⟨Nat.le_of_ble_eq_true rfl, Nat.le_of_ble_eq_true rfl⟩ (fun H locs hP hD hS => ?_)
      have hP : va_P D vwC (wX h rr cc cI N R C li us ob sl go gi fr la re) H := hP
      have hD : va_D A (wX h rr cc cI N R C li us ob sl go gi fr la re) := hD
      refine lv_iadd hx hb dX_find_47 ?_
      refine lv_istore_n (lv' := [(2, .int (a + (sr_si N C a))), (0, .ref h), (1, .int x), (3, .int (nI j))]) hx hb dX_find_48 rfl hl (by decide) rfl (fun ls hl => ?_)
      refine lv_iinc (v := nI (j + 1)) (lv' := [(3, .int (nI (j + 1))), (2, .int (a + (sr_si N C a))), (0, .ref h), (1, .int x)]) hx hb dX_find_49 hl (k := 3) rfl (nI_1 j) (by decide) rfl (fun ls hl => ?_)
      refine lv_goto (tgt := 18) hx hb dX_find_52 (by decide) ?_
      have es : sr_fn N C x (n + 1) a = sr_fn N C x n (a + sr_si N C a) := by simp only [sr_fn, c_36, ↓reduceIte]
      rw [es] at k55 k39
      exact ih (j + 1) (a + (sr_si N C a)) _ _ _ (by omega) hP hD hS (lv_sub hl [2, 3, 1, 0] rfl) k55 k39
    · exact k39 a (nI j) _ _ _ (by simp only [sr_fn, c_36, ↓reduceIte]) hP hD hS (lv_sub hl [0, 1, 2, 3] rfl)

set_option maxHeartbeats 4000000 in
set_option maxRecDepth 100000 in
theorem ct_X_find (l : Launch) (D : va_G) (h rr cc : Nat) (cI : ClassId) (N : Nat) (R C : Nat → Int32) (li us ob sl go gi fr la re : Int32) (sz : Nat) (x : Int32) (hN : N < 2 ^ 31) : sy_Mi l yX_find (Cond.code yX_find bX_find 4 (some .int) :: sr_big) { frames := 2, cells := 0, slots := 0, locals := 43 } D vwC [(cI, .int)] [.ref h, .int x] (wX h rr cc cI N R C li us ob sl go gi fr la re) sz (if x < 0 then 0 else if x < gi then sr_fn N C x ob.toNatClampNeg 1 else 0) (wX h rr cc cI N R C li us ob sl go gi fr la re) 0 0 := by
  refine Met.ofW (cc := bX_find) (maxL := 4) (ret := (some .int)) (by decide) rfl ?_
  intro p e s m args below meth c s₁ B hml hv
  obtain ⟨rfl, hsz, hP, hK, hD0⟩ := hv
  have hx := B.exec
  have hb := B.bytes
  have hr := B.returns
  have hbg : ∀ w ∈ sr_big, w.before _ s = true := fun w h => atoms_spec (ws := Cond.code yX_find bX_find 4 (some .int) :: sr_big) B.pre w (List.mem_cons_of_mem _ h)
  have hown : s.vm.findClass RX = some m.cls := findClass_of_methodNamed B.named
  have hlocks := B.notSynchronized
  subst hsz
  have hD := hD0.self (sz := s.heap.size)
  generalize hAe : va_A (wX h rr cc cI N R C li us ob sl go gi fr la re) s.heap.size = A at *
  have hA : ∀ q : Nat, s.heap.size ≤ q → A q := fun q h => by rw [← hAe]; exact Or.inr h
  have hS : va_S A s.heap s.heap [] := va_S.rf
  have hl := lv_entry ([.ref h, .int x]) (n := 4) (Nat.le_of_ble_eq_true rfl)
  rw [lg_entry_eq]
  generalize (lg_sl ([.ref h, .int x]) ++ List.replicate (4 - (lg_sl ([.ref h, .int x])).length) Slot.unset).toArray = ls at hl ⊢
  have hl : lv_has ls 4 [(0, .ref h), (1, .int x)] := hl
  refine lv_iload_n hx hb dX_find_0 rfl (lv_at hl 1 rfl) ?_
  refine lv_if_lt (tgt := 12) hx hb dX_find_1 (by decide) (fun c_1 => ?_) (fun c_1 => ?_)
  · refine lv_iconst (v := 0) hx hb dX_find_12 (by decide) ?_
    refine W.widen (k := 0) (n := 0) (Nat.le_of_ble_eq_true rfl) (Nat.le_of_ble_eq_true rfl) ?_
    exact W.iret (v := 0) hx hb hr (fun t ht hW => ⟨⟨0, (), rfl, (by simp only [c_1, ↓reduceIte]), by rw [ht]; exact hP, va_K.moved hW.alike hK, hD⟩, hS.F ht⟩) hS.2.2 dX_find_13
  · refine lv_iload_n hx hb dX_find_4 rfl (lv_at hl 1 rfl) ?_
    refine lv_aload_n hx hb dX_find_5 rfl (lv_at hl 0 rfl) ?_
    refine va_get (D := D) (ci := 0) (v := .int gi) (C := RX) (T := TX) (N := 11) hx hb hbg bg_X hown hK hP 0 rfl rfl 7 (by decide) (hbg _ bw_58) (fun _ h9 => h9) rfl dX_find_6 ?_
    refine lv_icmp_lt (tgt := 14) hx hb dX_find_9 (by decide) (fun c_9 => ?_) (fun c_9 => ?_)
    · refine lv_iconst (v := 1) hx hb dX_find_14 (by decide) ?_
      refine lv_istore_n (lv' := [(2, .int 1), (0, .ref h), (1, .int x)]) hx hb dX_find_15 rfl hl (by decide) rfl (fun ls hl => ?_)
      refine lv_iconst (v := 0) hx hb dX_find_16 (by decide) ?_
      refine lv_istore_n (lv' := [(3, .int 0), (2, .int 1), (0, .ref h), (1, .int x)]) hx hb dX_find_17 rfl hl (by decide) rfl (fun ls hl => ?_)
      refine lp_X_find hx hb hml hown hbg hK hA hN ob.toNatClampNeg 0 1 _ _ _ (by simp) hP hD hS (lv_sub hl [2, 3, 1, 0] rfl) ?_ ?_
      · intro a' i' H locs ls hc hP hD hS hl
        refine lv_iconst (v := 0) hx hb dX_find_55 (by decide) ?_
        refine W.widen (k := 0) (n := 0) (Nat.le_of_ble_eq_true rfl) (Nat.le_of_ble_eq_true rfl) ?_
        exact W.iret (v := 0) hx hb hr (fun t ht hW => ⟨⟨0, (), rfl, (by simp only [c_1, c_9, ↓reduceIte, hc]), by rw [ht]; exact hP, va_K.moved hW.alike hK, hD⟩, hS.F ht⟩) hS.2.2 dX_find_56
      · intro a' i' H locs ls hc hP hD hS hl
        refine lv_iload_n hx hb dX_find_39 rfl (lv_at hl 2 rfl) ?_
        refine W.widen (k := 0) (n := 0) (Nat.le_of_ble_eq_true rfl) (Nat.le_of_ble_eq_true rfl) ?_
        exact W.iret (v := a') hx hb hr (fun t ht hW => ⟨⟨a', (), rfl, (by simp only [c_1, c_9, ↓reduceIte, hc]), by rw [ht]; exact hP, va_K.moved hW.alike hK, hD⟩, hS.F ht⟩) hS.2.2 dX_find_40
    · refine lv_iconst (v := 0) hx hb dX_find_12 (by decide) ?_
      refine W.widen (k := 0) (n := 0) (Nat.le_of_ble_eq_true rfl) (Nat.le_of_ble_eq_true rfl) ?_
      exact W.iret (v := 0) hx hb hr (fun t ht hW => ⟨⟨0, (), rfl, (by simp only [c_1, c_9, ↓reduceIte]), by rw [ht]; exact hP, va_K.moved hW.alike hK, hD⟩, hS.F ht⟩) hS.2.2 dX_find_13

end XL
end
section
/-! CONTRACTS OF SlideRow: what is reached, the slide (rows laid by wip/gen) -/
/-- redirectRoots, pure -/
def sr_rr (N : Nat) (C : Nat → Int32) : Nat → Nat → (Nat → Int32) → Nat → Int32
  | 0, _, R => R
  | n + 1, j, R => sr_rr N C n (j + 1) (upd R j (sr_po N C (R j)))
theorem sr_rr_eq {N : Nat} {C : Nat → Int32} : ∀ (n j : Nat) (R : Nat → Int32) (q : Nat), sr_rr N C n j R q = if j ≤ q ∧ q < j + n then sr_po N C (R q) else R q
  | 0, j, R, q => by rw [if_neg (by omega)]; rfl
  | n + 1, j, R, q => by
    show sr_rr N C n (j + 1) _ q = _
    rw [sr_rr_eq n (j + 1) _ q]
    by_cases h : q = j
    · rw [if_neg (by omega), if_pos (by omega), h, pk_us]
    · rw [pk_un h]
      by_cases h2 : j + 1 ≤ q ∧ q < j + 1 + n
      · rw [if_pos h2, if_pos (by omega)]
      · rw [if_neg h2, if_neg (by omega)]
/-- what moveCells has looked at keeps arraycopy within the row -/
theorem sr_mvH {N : Nat} {a b k : Int32} (hN : N < 2 ^ 31) (h1 : ¬ b < 1) (h2 : ¬ a ≤ b) (h3 : ¬ k ≤ 0) (h4 : ¬ nI N - a < k) : ¬ a < 0 ∧ ¬ b < 0 ∧ ¬ k < 0 ∧ a.toNatClampNeg + k.toNatClampNeg ≤ N ∧ b.toNatClampNeg + k.toNatClampNeg ≤ N := by
  have e1 : (1 : Int32).toInt = 1 := by decide
  have e0 : (0 : Int32).toInt = 0 := by decide
  have ea : a.toNatClampNeg = a.toInt.toNat := rfl
  have eb : b.toNatClampNeg = b.toInt.toNat := rfl
  have ek : k.toNatClampNeg = k.toInt.toNat := rfl
  have la := a.toInt_lt
  have lb := b.toInt_lt
  have lk := k.toInt_lt
  rw [Int32.lt_iff_toInt_lt, e1] at h1
  rw [Int32.le_iff_toInt_le] at h2
  rw [Int32.le_iff_toInt_le, e0] at h3
  rw [Int32.lt_iff_toInt_lt, Int32.toInt_sub, nI_toInt hN, Int.bmod_eq_of_le (by omega) (by omega)] at h4
  simp only [Int32.lt_iff_toInt_lt, e0]
  omega
section XM
variable {p : Program} {l : Launch} {e : Env} {s : State} {m : MethodId} {args : Array Value} {below : List Frame} {meth : Method} {c : Code} {Q : State → Prop} {A : Nat → Prop} {D : va_G} {h rr cc : Nat} {cI : ClassId} {N : Nat} {R : Nat → Int32} {li us ob sl go gi : Int32}

set_option maxHeartbeats 4000000 in
set_option maxRecDepth 100000 in
theorem ct_X_reach (l : Launch) (D : va_G) (h rr cc : Nat) (cI : ClassId) (N : Nat) (R C : Nat → Int32) (li us ob sl go gi fr la re : Int32) (sz : Nat) (a : Int32) (hN : N < 2 ^ 31) : sy_Mv l yX_reach (Cond.code yX_reach bX_reach 2 none :: sr_big) { frames := 1, cells := 0, slots := 0, locals := 22 } D vwC [(cI, .int)] [.ref h, .int a] (wX h rr cc cI N R C li us ob sl go gi fr la re) sz (wX h rr cc cI N R ((sr_rch N (C, fr, la, re) a).1) li us ob sl go gi ((sr_rch N (C, fr, la, re) a).2.1) ((sr_rch N (C, fr, la, re) a).2.2.1) ((sr_rch N (C, fr, la, re) a).2.2.2)) 0 0 := by
  refine Met.ofW (cc := bX_reach) (maxL := 2) (ret := none) (by decide) rfl ?_
  intro p e s m args below meth c s₁ B hml hv
  obtain ⟨rfl, hsz, hP, hK, hD0⟩ := hv
  have hx := B.exec
  have hb := B.bytes
  have hr := B.returns
  have hbg : ∀ w ∈ sr_big, w.before _ s = true := fun w h => atoms_spec (ws := Cond.code yX_reach bX_reach 2 none :: sr_big) B.pre w (List.mem_cons_of_mem _ h)
  have hown : s.vm.findClass RX = some m.cls := findClass_of_methodNamed B.named
  have hlocks := B.notSynchronized
  subst hsz
  have hD := hD0.self (sz := s.heap.size)
  generalize hAe : va_A (wX h rr cc cI N R C li us ob sl go gi fr la re) s.heap.size = A at *
  have hA : ∀ q : Nat, s.heap.size ≤ q → A q := fun q h => by rw [← hAe]; exact Or.inr h
  have hS : va_S A s.heap s.heap [] := va_S.rf
  have hl := lv_entry ([.ref h, .int a]) (n := 2) (Nat.le_of_ble_eq_true rfl)
  rw [lg_entry_eq]
  generalize (lg_sl ([.ref h, .int a]) ++ List.replicate (2 - (lg_sl ([.ref h, .int a])).length) Slot.unset).toArray = ls at hl ⊢
  have hl : lv_has ls 2 [(0, .ref h), (1, .int a)] := hl
  refine lv_iload_n hx hb dX_reach_0 rfl (lv_at hl 1 rfl) ?_
  refine lv_if_eq (tgt := 14) hx hb dX_reach_1 (by decide) (fun c_1 => ?_) (fun c_1 => ?_)
  · have eq : sr_rch N (C, fr, la, re) a = (C, fr, la, re) := by simp only [sr_rch, c_1, ↓reduceIte]
    rw [eq]
    refine W.widen (k := 0) (n := 0) (Nat.le_of_ble_eq_true rfl) (Nat.le_of_ble_eq_true rfl) ?_
    exact W.vret hx hb hr (fun t ht hW => ⟨⟨(), rfl, trivial, by rw [ht]; exact hP, va_K.moved hW.alike hK, hD⟩, hS.F ht⟩) hS.2.2 dX_reach_14
  · refine lv_aload_n hx hb dX_reach_4 rfl (lv_at hl 0 rfl) ?_
    refine lv_iload_n hx hb dX_reach_5 rfl (lv_at hl 1 rfl) ?_
    refine lv_iconst (v := 2) hx hb dX_reach_6 (by decide) ?_
    refine lv_iadd hx hb dX_reach_7 ?_
    refine sy_cVi (wc := wX h rr cc cI N R C li us ob sl go gi fr la re) (wr := []) (w1 := wX h rr cc cI N R C li us ob sl go gi fr la re) (ci := 0) (q0 := 0) (As := [.int (a + 2)]) (rest := []) ⟨hx, hb, hml, hown, hbg⟩ (ct_X_read l D h rr cc cI N R C li us ob sl go gi fr la re s.heap.size (a + 2) hN) (cwV 1 hbg (bg_V bw_90 bw_91 bw_4 bw_34 bw_92) rfl rfl rfl (by decide +kernel) ⟨Nat.le_of_ble_eq_true rfl, Nat.le_of_ble_eq_true rfl⟩) hK [0] rfl hP hD hS hA [0, 1, 2] [] rfl rfl rfl rfl (by decide) rfl rfl rfl hl.1 rfl (Nat.le_of_ble_eq_true rfl) dX_reach_8 ⟨Nat.le_of_ble_eq_true rfl, Nat.le_of_ble_eq_true rfl⟩ (fun H locs hP hD hS => ?_)
    have hP : va_P D vwC (wX h rr cc cI N R C li us ob sl go gi fr la re) H := hP
    have hD : va_D A (wX h rr cc cI N R C li us ob sl go gi fr la re) := hD
    refine lv_if_eq (tgt := 15) hx hb dX_reach_11 (by decide) (fun c_11 => ?_) (fun c_11 => ?_)
    · refine lv_aload_n hx hb dX_reach_15 rfl (lv_at hl 0 rfl) ?_
      refine lv_iload_n hx hb dX_reach_16 rfl (lv_at hl 1 rfl) ?_
      refine lv_iconst (v := 2) hx hb dX_reach_17 (by decide) ?_
      refine lv_iadd hx hb dX_reach_18 ?_
      refine lv_iconst (v := (-1)) hx hb dX_reach_19 (by decide) ?_
      refine sy_cVv (wc := wX h rr cc cI N R C li us ob sl go gi fr la re) (wr := []) (w1 := wX h rr cc cI N R (sr_wr N C (a + 2) (-1)) li us ob sl go gi fr la re) (ci := 0) (q0 := 0) (As := [.int (a + 2), .int (-1)]) (rest := []) ⟨hx, hb, hml, hown, hbg⟩ (ct_X_write l D h rr cc cI N R C li us ob sl go gi fr la re H.size (a + 2) (-1) hN) (cwV 2 hbg (bg_V bw_84 bw_85 bw_2 bw_34 bw_86) rfl rfl rfl (by decide +kernel) ⟨Nat.le_of_ble_eq_true rfl, Nat.le_of_ble_eq_true rfl⟩) hK [0] rfl hP hD hS hA [0, 1, 2] [] rfl rfl rfl rfl (by decide) rfl rfl rfl hl.1 rfl (Nat.le_of_ble_eq_true rfl) dX_reach_20 ⟨Nat.le_of_ble_eq_true rfl, Nat.le_of_ble_eq_true rfl⟩ (fun H locs hP hD hS => ?_)
      have hP : va_P D vwC (wX h rr cc cI N R (sr_wr N C (a + 2) (-1)) li us ob sl go gi fr la re) H := hP
      have hD : va_D A (wX h rr cc cI N R (sr_wr N C (a + 2) (-1)) li us ob sl go gi fr la re) := hD
      refine lv_aload_n hx hb dX_reach_23 rfl (lv_at hl 0 rfl) ?_
      refine va_get (D := D) (ci := 0) (v := .int fr) (C := RX) (T := TX) (N := 11) hx hb hbg bg_X hown hK hP 0 rfl rfl 8 (by decide) (hbg _ bw_59) (fun _ h9 => h9) rfl dX_reach_24 ?_
      refine lv_if_ne (tgt := 38) hx hb dX_reach_27 (by decide) (fun c_27 => ?_) (fun c_27 => ?_)
      · refine lv_aload_n hx hb dX_reach_38 rfl (lv_at hl 0 rfl) ?_
        refine lv_aload_n hx hb dX_reach_39 rfl (lv_at hl 0 rfl) ?_
        refine va_get (D := D) (ci := 0) (v := .int la) (C := RX) (T := TX) (N := 11) hx hb hbg bg_X hown hK hP 0 rfl rfl 9 (by decide) (hbg _ bw_60) (fun _ h9 => h9) rfl dX_reach_40 ?_
        refine lv_iconst (v := 2) hx hb dX_reach_43 (by decide) ?_
        refine lv_iadd hx hb dX_reach_44 ?_
        refine lv_iload_n hx hb dX_reach_45 rfl (lv_at hl 1 rfl) ?_
        refine sy_cVv (wc := wX h rr cc cI N R (sr_wr N C (a + 2) (-1)) li us ob sl go gi fr la re) (wr := []) (w1 := wX h rr cc cI N R (sr_wr N (sr_wr N C (a + 2) (-1)) (la + 2) a) li us ob sl go gi fr la re) (ci := 0) (q0 := 0) (As := [.int (la + 2), .int a]) (rest := []) ⟨hx, hb, hml, hown, hbg⟩ (ct_X_write l D h rr cc cI N R (sr_wr N C (a + 2) (-1)) li us ob sl go gi fr la re H.size (la + 2) a hN) (cwV 2 hbg (bg_V bw_84 bw_85 bw_2 bw_34 bw_86) rfl rfl rfl (by decide +kernel) ⟨Nat.le_of_ble_eq_true rfl, Nat.le_of_ble_eq_true rfl⟩) hK [0] rfl hP hD hS hA [0, 1, 2] [] rfl rfl rfl rfl (by decide) rfl rfl rfl hl.1 rfl (Nat.le_of_ble_eq_true rfl) dX_reach_46 ⟨Nat.le_of_ble_eq_true rfl, Nat.le_of_ble_eq_true rfl⟩ (fun H locs hP hD hS => ?_)
        have hP : va_P D vwC (wX h rr cc cI N R (sr_wr N (sr_wr N C (a + 2) (-1)) (la + 2) a) li us ob sl go gi fr la re) H := hP
        have hD : va_D A (wX h rr cc cI N R (sr_wr N (sr_wr N C (a + 2) (-1)) (la + 2) a) li us ob sl go gi fr la re) := hD
        refine lv_aload_n hx hb dX_reach_49 rfl (lv_at hl 0 rfl) ?_
        refine lv_iload_n hx hb dX_reach_50 rfl (lv_at hl 1 rfl) ?_
        refine va_put (D := D) (ci := 0) (v := .int a) (ty := .int) (C := RX) (T := TX) (N := 11) hx hb hbg bg_X tX tX_ok nX hown hK hP hD hS 0 rfl rfl 9 (by decide) (hbg _ bw_60) (fun _ h9 => h9) rfl (by decide +kernel) rfl rfl (Nat.le_of_ble_eq_true rfl) dX_reach_51 (fun H locs hP hD hS => ?_)
        have hP : va_P D vwC (wX h rr cc cI N R (sr_wr N (sr_wr N C (a + 2) (-1)) (la + 2) a) li us ob sl go gi fr a re) H := hP
        have hD : va_D A (wX h rr cc cI N R (sr_wr N (sr_wr N C (a + 2) (-1)) (la + 2) a) li us ob sl go gi fr a re) := hD
        refine lv_aload_n hx hb dX_reach_54 rfl (lv_at hl 0 rfl) ?_
        refine lv_dup hx hb dX_reach_55 rfl ?_
        refine va_get (D := D) (ci := 0) (v := .int re) (C := RX) (T := TX) (N := 11) hx hb hbg bg_X hown hK hP 0 rfl rfl 10 (by decide) (hbg _ bw_61) (fun _ h9 => h9) rfl dX_reach_56 ?_
        refine lv_iconst (v := 1) hx hb dX_reach_59 (by decide) ?_
        refine lv_iadd hx hb dX_reach_60 ?_
        refine va_put (D := D) (ci := 0) (v := .int (re + 1)) (ty := .int) (C := RX) (T := TX) (N := 11) hx hb hbg bg_X tX tX_ok nX hown hK hP hD hS 0 rfl rfl 10 (by decide) (hbg _ bw_61) (fun _ h9 => h9) rfl (by decide +kernel) rfl rfl (Nat.le_of_ble_eq_true rfl) dX_reach_61 (fun H locs hP hD hS => ?_)
        have hP : va_P D vwC (wX h rr cc cI N R (sr_wr N (sr_wr N C (a + 2) (-1)) (la + 2) a) li us ob sl go gi fr a (re + 1)) H := hP
        have hD : va_D A (wX h rr cc cI N R (sr_wr N (sr_wr N C (a + 2) (-1)) (la + 2) a) li us ob sl go gi fr a (re + 1)) := hD
        have eq : sr_rch N (C, fr, la, re) a = (sr_wr N (sr_wr N C (a + 2) (-1)) (la + 2) a, fr, a, re + 1) := by simp only [sr_rch, c_1, c_11, c_27, ↓reduceIte]
        rw [eq]
        refine W.widen (k := 0) (n := 0) (Nat.le_of_ble_eq_true rfl) (Nat.le_of_ble_eq_true rfl) ?_
        exact W.vret hx hb hr (fun t ht hW => ⟨⟨(), rfl, trivial, by rw [ht]; exact hP, va_K.moved hW.alike hK, hD⟩, hS.F ht⟩) hS.2.2 dX_reach_64
      · refine lv_aload_n hx hb dX_reach_30 rfl (lv_at hl 0 rfl) ?_
        refine lv_iload_n hx hb dX_reach_31 rfl (lv_at hl 1 rfl) ?_
        refine va_put (D := D) (ci := 0) (v := .int a) (ty := .int) (C := RX) (T := TX) (N := 11) hx hb hbg bg_X tX tX_ok nX hown hK hP hD hS 0 rfl rfl 8 (by decide) (hbg _ bw_59) (fun _ h9 => h9) rfl (by decide +kernel) rfl rfl (Nat.le_of_ble_eq_true rfl) dX_reach_32 (fun H locs hP hD hS => ?_)
        have hP : va_P D vwC (wX h rr cc cI N R (sr_wr N C (a + 2) (-1)) li us ob sl go gi a la re) H := hP
        have hD : va_D A (wX h rr cc cI N R (sr_wr N C (a + 2) (-1)) li us ob sl go gi a la re) := hD
        refine lv_goto (tgt := 49) hx hb dX_reach_35 (by decide) ?_
        refine lv_aload_n hx hb dX_reach_49 rfl (lv_at hl 0 rfl) ?_
        refine lv_iload_n hx hb dX_reach_50 rfl (lv_at hl 1 rfl) ?_
        refine va_put (D := D) (ci := 0) (v := .int a) (ty := .int) (C := RX) (T := TX) (N := 11) hx hb hbg bg_X tX tX_ok nX hown hK hP hD hS 0 rfl rfl 9 (by decide) (hbg _ bw_60) (fun _ h9 => h9) rfl (by decide +kernel) rfl rfl (Nat.le_of_ble_eq_true rfl) dX_reach_51 (fun H locs hP hD hS => ?_)
        have hP : va_P D vwC (wX h rr cc cI N R (sr_wr N C (a + 2) (-1)) li us ob sl go gi a a re) H := hP
        have hD : va_D A (wX h rr cc cI N R (sr_wr N C (a + 2) (-1)) li us ob sl go gi a a re) := hD
        refine lv_aload_n hx hb dX_reach_54 rfl (lv_at hl 0 rfl) ?_
        refine lv_dup hx hb dX_reach_55 rfl ?_
        refine va_get (D := D) (ci := 0) (v := .int re) (C := RX) (T := TX) (N := 11) hx hb hbg bg_X hown hK hP 0 rfl rfl 10 (by decide) (hbg _ bw_61) (fun _ h9 => h9) rfl dX_reach_56 ?_
        refine lv_iconst (v := 1) hx hb dX_reach_59 (by decide) ?_
        refine lv_iadd hx hb dX_reach_60 ?_
        refine va_put (D := D) (ci := 0) (v := .int (re + 1)) (ty := .int) (C := RX) (T := TX) (N := 11) hx hb hbg bg_X tX tX_ok nX hown hK hP hD hS 0 rfl rfl 10 (by decide) (hbg _ bw_61) (fun _ h9 => h9) rfl (by decide +kernel) rfl rfl (Nat.le_of_ble_eq_true rfl) dX_reach_61 (fun H locs hP hD hS => ?_)
        have hP : va_P D vwC (wX h rr cc cI N R (sr_wr N C (a + 2) (-1)) li us ob sl go gi a a (re + 1)) H := hP
        have hD : va_D A (wX h rr cc cI N R (sr_wr N C (a + 2) (-1)) li us ob sl go gi a a (re + 1)) := hD
        have eq : sr_rch N (C, fr, la, re) a = (sr_wr N C (a + 2) (-1), a, a, re + 1) := by simp only [sr_rch, c_1, c_11, c_27, ↓reduceIte]
        rw [eq]
        refine W.widen (k := 0) (n := 0) (Nat.le_of_ble_eq_true rfl) (Nat.le_of_ble_eq_true rfl) ?_
        exact W.vret hx hb hr (fun t ht hW => ⟨⟨(), rfl, trivial, by rw [ht]; exact hP, va_K.moved hW.alike hK, hD⟩, hS.F ht⟩) hS.2.2 dX_reach_64
    · have eq : sr_rch N (C, fr, la, re) a = (C, fr, la, re) := by simp only [sr_rch, c_1, c_11, ↓reduceIte]
      rw [eq]
      refine W.widen (k := 0) (n := 0) (Nat.le_of_ble_eq_true rfl) (Nat.le_of_ble_eq_true rfl) ?_
      exact W.vret hx hb hr (fun t ht hW => ⟨⟨(), rfl, trivial, by rw [ht]; exact hP, va_K.moved hW.alike hK, hD⟩, hS.F ht⟩) hS.2.2 dX_reach_14

set_option maxHeartbeats 4000000 in
set_option maxRecDepth 100000 in
theorem lp_X_reachFieldsOf {a k : Int32} (hx : p.tables.exec = Jvm.exec) (hb : c.code = bX_reachFieldsOf) (hml : c.maxLocals = 4) (hown : s.vm.findClass RX = some m.cls) (hbg : ∀ w ∈ sr_big, w.before args s = true) (hK : va_K D vwC [(cI, .int)] s) (hA : ∀ q : Nat, s.heap.size ≤ q → A q) (hN : N < 2 ^ 31) :
    ∀ (n j : Nat) (q : sr_Q) (H : Heap) (locs : List Loc) (ls : Array Slot), j + n = k.toNatClampNeg → va_P D vwC (wX h rr cc cI N R q.1 li us ob sl go gi q.2.1 q.2.2.1 q.2.2.2) H → va_D A (wX h rr cc cI N R q.1 li us ob sl go gi q.2.1 q.2.2.1 q.2.2.2) → va_S A s.heap H locs → lv_has ls 4 [(0, .ref h), (1, .int a), (2, .int k), (3, .int (nI j))] →
      (∀ (i' : Int32) (H : Heap) (locs : List Loc) (ls : Array Slot), va_P D vwC (wX h rr cc cI N R ((sr_rcf N a n j q).1) li us ob sl go gi ((sr_rcf N a n j q).2.1) ((sr_rcf N a n j q).2.2.1) ((sr_rcf N a n j q).2.2.2)) H → va_D A (wX h rr cc cI N R ((sr_rcf N a n j q).1) li us ob sl go gi ((sr_rcf N a n j q).2.1) ((sr_rcf N a n j q).2.2.1) ((sr_rcf N a n j q).2.2.2)) → va_S A s.heap H locs → lv_has ls 4 [(0, .ref h), (1, .int a), (2, .int k), (3, .int i')] → W p l e { frames := 2, cells := 0, slots := 0, locals := 43 } s m args below meth c H locs 0 0 Q (F0 m 32 ls [])) →
      W p l e { frames := 2, cells := 0, slots := 0, locals := 43 } s m args below meth c H locs 0 0 Q (F0 m 8 ls []) := by
  intro n
  induction n with
  | zero =>
    intro j q H locs ls hst hP hD hS hl kk
    refine lv_iload_n hx hb dX_reachFieldsOf_8 rfl (lv_at hl 3 rfl) ?_
    refine lv_iload_n hx hb dX_reachFieldsOf_9 rfl (lv_at hl 2 rfl) ?_
    refine lv_icmp_ge (tgt := 32) hx hb dX_reachFieldsOf_10 (by decide) (fun _ => ?_) (fun z => absurd ((sr_cle (by have := sr_clt k; omega)).mpr (by omega)) z)
    exact kk (nI j) _ _ _ hP hD hS (lv_sub hl [0, 1, 2, 3] rfl)
  | succ n ih =>
    intro j q H locs ls hst hP hD hS hl kk
    refine lv_iload_n hx hb dX_reachFieldsOf_8 rfl (lv_at hl 3 rfl) ?_
    refine lv_iload_n hx hb dX_reachFieldsOf_9 rfl (lv_at hl 2 rfl) ?_
    refine lv_icmp_ge (tgt := 32) hx hb dX_reachFieldsOf_10 (by decide) (fun z => absurd z (fun z => absurd ((sr_cle (by have := sr_clt k; omega)).mp z) (by omega))) (fun _ => ?_)
    refine lv_aload_n hx hb dX_reachFieldsOf_13 rfl (lv_at hl 0 rfl) ?_
    refine lv_aload_n hx hb dX_reachFieldsOf_14 rfl (lv_at hl 0 rfl) ?_
    refine lv_iload_n hx hb dX_reachFieldsOf_15 rfl (lv_at hl 1 rfl) ?_
    refine lv_iconst (v := 3) hx hb dX_reachFieldsOf_16 (by decide) ?_
    refine lv_iadd hx hb dX_reachFieldsOf_17 ?_
    refine lv_iload_n hx hb dX_reachFieldsOf_18 rfl (lv_at hl 3 rfl) ?_
    refine lv_iadd hx hb dX_reachFieldsOf_19 ?_
    refine sy_cVi (wc := wX h rr cc cI N R q.1 li us ob sl go gi q.2.1 q.2.2.1 q.2.2.2) (wr := []) (w1 := wX h rr cc cI N R q.1 li us ob sl go gi q.2.1 q.2.2.1 q.2.2.2) (ci := 0) (q0 := 0) (As := [.int ((a + 3) + (nI j))]) (rest := [.ref h]) ⟨hx, hb, hml, hown, hbg⟩ (ct_X_read l D h rr cc cI N R q.1 li us ob sl go gi q.2.1 q.2.2.1 q.2.2.2 H.size ((a + 3) + (nI j)) hN) (cwV 1 hbg (bg_V bw_90 bw_91 bw_4 bw_34 bw_92) rfl rfl rfl (by decide +kernel) ⟨Nat.le_of_ble_eq_true rfl, Nat.le_of_ble_eq_true rfl⟩) hK [0] rfl hP hD hS hA [0, 1, 2] [] rfl rfl rfl rfl (by decide) rfl rfl rfl hl.1 rfl (Nat.le_of_ble_eq_true rfl) dX_reachFieldsOf_20 ⟨Nat.le_of_ble_eq_true rfl, Nat.le_of_ble_eq_true rfl⟩ (fun H locs hP hD hS => ?_)
    have hP : va_P D vwC (wX h rr cc cI N R q.1 li us ob sl go gi q.2.1 q.2.2.1 q.2.2.2) H := hP
    have hD : va_D A (wX h rr cc cI N R q.1 li us ob sl go gi q.2.1 q.2.2.1 q.2.2.2) := hD
    refine sy_cVv (wc := wX h rr cc cI N R q.1 li us ob sl go gi q.2.1 q.2.2.1 q.2.2.2) (wr := []) (w1 := wX h rr cc cI N R ((sr_rch N (q.1, q.2.1, q.2.2.1, q.2.2.2) (sr_rd N q.1 ((a + 3) + (nI j)))).1) li us ob sl go gi ((sr_rch N (q.1, q.2.1, q.2.2.1, q.2.2.2) (sr_rd N q.1 ((a + 3) + (nI j)))).2.1) ((sr_rch N (q.1, q.2.1, q.2.2.1, q.2.2.2) (sr_rd N q.1 ((a + 3) + (nI j)))).2.2.1) ((sr_rch N (q.1, q.2.1, q.2.2.1, q.2.2.2) (sr_rd N q.1 ((a + 3) + (nI j)))).2.2.2)) (ci := 0) (q0 := 0) (As := [.int (sr_rd N q.1 ((a + 3) + (nI j)))]) (rest := []) ⟨hx, hb, hml, hown, hbg⟩ (ct_X_reach l D h rr cc cI N R q.1 li us ob sl go gi q.2.1 q.2.2.1 q.2.2.2 H.size (sr_rd N q.1 ((a + 3) + (nI j))) hN) (cwV 1 hbg (bg_V bw_93 bw_94 bw_5 bw_34 bw_95) rfl rfl rfl (by decide +kernel) ⟨Nat.le_of_ble_eq_true rfl, Nat.le_of_ble_eq_true rfl⟩) hK [0] rfl hP hD hS hA [0, 1, 2] [] rfl rfl rfl rfl (by decide) rfl rfl rfl hl.1 rfl (Nat.le_of_ble_eq_true rfl) dX_reachFieldsOf_23 ⟨Nat.le_of_ble_eq_true rfl, Nat.le_of_ble_eq_true rfl⟩ (fun H locs hP hD hS => ?_)
    have hP : va_P D vwC (wX h rr cc cI N R ((sr_rch N (q.1, q.2.1, q.2.2.1, q.2.2.2) (sr_rd N q.1 ((a + 3) + (nI j)))).1) li us ob sl go gi ((sr_rch N (q.1, q.2.1, q.2.2.1, q.2.2.2) (sr_rd N q.1 ((a + 3) + (nI j)))).2.1) ((sr_rch N (q.1, q.2.1, q.2.2.1, q.2.2.2) (sr_rd N q.1 ((a + 3) + (nI j)))).2.2.1) ((sr_rch N (q.1, q.2.1, q.2.2.1, q.2.2.2) (sr_rd N q.1 ((a + 3) + (nI j)))).2.2.2)) H := hP
    have hD : va_D A (wX h rr cc cI N R ((sr_rch N (q.1, q.2.1, q.2.2.1, q.2.2.2) (sr_rd N q.1 ((a + 3) + (nI j)))).1) li us ob sl go gi ((sr_rch N (q.1, q.2.1, q.2.2.1, q.2.2.2) (sr_rd N q.1 ((a + 3) + (nI j)))).2.1) ((sr_rch N (q.1, q.2.1, q.2.2.1, q.2.2.2) (sr_rd N q.1 ((a + 3) + (nI j)))).2.2.1) ((sr_rch N (q.1, q.2.1, q.2.2.1, q.2.2.2) (sr_rd N q.1 ((a + 3) + (nI j)))).2.2.2)) := hD
    refine lv_iinc (v := nI (j + 1)) (lv' := [(3, .int (nI (j + 1))), (0, .ref h), (1, .int a), (2, .int k)]) hx hb dX_reachFieldsOf_26 hl (k := 3) rfl (nI_1 j) (by decide) rfl (fun ls hl => ?_)
    refine lv_goto (tgt := 8) hx hb dX_reachFieldsOf_29 (by decide) ?_
    exact ih (j + 1) (sr_rch N q (sr_rd N q.1 (a + 3 + nI j))) _ _ _ (by omega) hP hD hS (lv_sub hl [1, 2, 3, 0] rfl) kk

set_option maxHeartbeats 4000000 in
set_option maxRecDepth 100000 in
theorem ct_X_reachFieldsOf (l : Launch) (D : va_G) (h rr cc : Nat) (cI : ClassId) (N : Nat) (R C : Nat → Int32) (li us ob sl go gi fr la re : Int32) (sz : Nat) (a : Int32) (hN : N < 2 ^ 31) : sy_Mv l yX_reachFieldsOf (Cond.code yX_reachFieldsOf bX_reachFieldsOf 4 none :: sr_big) { frames := 2, cells := 0, slots := 0, locals := 43 } D vwC [(cI, .int)] [.ref h, .int a] (wX h rr cc cI N R C li us ob sl go gi fr la re) sz (wX h rr cc cI N R ((sr_rcf N a (sr_fi N C a).toNatClampNeg 0 (C, fr, la, re)).1) li us ob sl go gi ((sr_rcf N a (sr_fi N C a).toNatClampNeg 0 (C, fr, la, re)).2.1) ((sr_rcf N a (sr_fi N C a).toNatClampNeg 0 (C, fr, la, re)).2.2.1) ((sr_rcf N a (sr_fi N C a).toNatClampNeg 0 (C, fr, la, re)).2.2.2)) 0 0 := by
  refine Met.ofW (cc := bX_reachFieldsOf) (maxL := 4) (ret := none) (by decide) rfl ?_
  intro p e s m args below meth c s₁ B hml hv
  obtain ⟨rfl, hsz, hP, hK, hD0⟩ := hv
  have hx := B.exec
  have hb := B.bytes
  have hr := B.returns
  have hbg : ∀ w ∈ sr_big, w.before _ s = true := fun w h => atoms_spec (ws := Cond.code yX_reachFieldsOf bX_reachFieldsOf 4 none :: sr_big) B.pre w (List.mem_cons_of_mem _ h)
  have hown : s.vm.findClass RX = some m.cls := findClass_of_methodNamed B.named
  have hlocks := B.notSynchronized
  subst hsz
  have hD := hD0.self (sz := s.heap.size)
  generalize hAe : va_A (wX h rr cc cI N R C li us ob sl go gi fr la re) s.heap.size = A at *
  have hA : ∀ q : Nat, s.heap.size ≤ q → A q := fun q h => by rw [← hAe]; exact Or.inr h
  have hS : va_S A s.heap s.heap [] := va_S.rf
  have hl := lv_entry ([.ref h, .int a]) (n := 4) (Nat.le_of_ble_eq_true rfl)
  rw [lg_entry_eq]
  generalize (lg_sl ([.ref h, .int a]) ++ List.replicate (4 - (lg_sl ([.ref h, .int a])).length) Slot.unset).toArray = ls at hl ⊢
  have hl : lv_has ls 4 [(0, .ref h), (1, .int a)] := hl
  refine lv_aload_n hx hb dX_reachFieldsOf_0 rfl (lv_at hl 0 rfl) ?_
  refine lv_iload_n hx hb dX_reachFieldsOf_1 rfl (lv_at hl 1 rfl) ?_
  refine sy_cVi (wc := wX h rr cc cI N R C li us ob sl go gi fr la re) (wr := []) (w1 := wX h rr cc cI N R C li us ob sl go gi fr la re) (ci := 0) (q0 := 0) (As := [.int a]) (rest := []) ⟨hx, hb, hml, hown, hbg⟩ (ct_X_fieldsOf l D h rr cc cI N R C li us ob sl go gi fr la re s.heap.size a hN) (cwV 1 hbg (bg_V bw_99 bw_100 bw_7 bw_34 bw_101) rfl rfl rfl (by decide +kernel) ⟨Nat.le_of_ble_eq_true rfl, Nat.le_of_ble_eq_true rfl⟩) hK [0] rfl hP hD hS hA [0, 1, 2] [] rfl rfl rfl rfl (by decide) rfl rfl rfl hl.1 rfl (Nat.le_of_ble_eq_true rfl) dX_reachFieldsOf_2 ⟨Nat.le_of_ble_eq_true rfl, Nat.le_of_ble_eq_true rfl⟩ (fun H locs hP hD hS => ?_)
  have hP : va_P D vwC (wX h rr cc cI N R C li us ob sl go gi fr la re) H := hP
  have hD : va_D A (wX h rr cc cI N R C li us ob sl go gi fr la re) := hD
  refine lv_istore_n (lv' := [(2, .int (sr_fi N C a)), (0, .ref h), (1, .int a)]) hx hb dX_reachFieldsOf_5 rfl hl (by decide) rfl (fun ls hl => ?_)
  refine lv_iconst (v := 0) hx hb dX_reachFieldsOf_6 (by decide) ?_
  refine lv_istore_n (lv' := [(3, .int 0), (2, .int (sr_fi N C a)), (0, .ref h), (1, .int a)]) hx hb dX_reachFieldsOf_7 rfl hl (by decide) rfl (fun ls hl => ?_)
  refine lp_X_reachFieldsOf hx hb hml hown hbg hK hA hN (sr_fi N C a).toNatClampNeg 0 (C, fr, la, re) _ _ _ (by simp) hP hD hS (lv_sub hl [2, 3, 1, 0] rfl) ?_
  intro i' H locs ls hP hD hS hl
  refine W.widen (k := 0) (n := 0) (Nat.le_of_ble_eq_true rfl) (Nat.le_of_ble_eq_true rfl) ?_
  exact W.vret hx hb hr (fun t ht hW => ⟨⟨(), rfl, trivial, by rw [ht]; exact hP, va_K.moved hW.alike hK, hD⟩, hS.F ht⟩) hS.2.2 dX_reachFieldsOf_32

set_option maxHeartbeats 4000000 in
set_option maxRecDepth 100000 in
theorem lp_X_chainA  (hx : p.tables.exec = Jvm.exec) (hb : c.code = bX_chainReached) (hml : c.maxLocals = 3) (hown : s.vm.findClass RX = some m.cls) (hbg : ∀ w ∈ sr_big, w.before args s = true) (hK : va_K D vwC [(cI, .int)] s) (hA : ∀ q : Nat, s.heap.size ≤ q → A q) (hN : N < 2 ^ 31) :
    ∀ (n j : Nat) (q : sr_Q) (H : Heap) (locs : List Loc) (ls : Array Slot), j + n = 16 → va_P D vwC (wX h rr cc cI N R q.1 li us ob sl go gi q.2.1 q.2.2.1 q.2.2.2) H → va_D A (wX h rr cc cI N R q.1 li us ob sl go gi q.2.1 q.2.2.1 q.2.2.2) → va_S A s.heap H locs → lv_has ls 3 [(0, .ref h), (1, .int (nI j))] →
      (∀ (i' : Int32) (H : Heap) (locs : List Loc) (ls : Array Slot), va_P D vwC (wX h rr cc cI N R ((sr_rcr N R n j q).1) li us ob sl go gi ((sr_rcr N R n j q).2.1) ((sr_rcr N R n j q).2.2.1) ((sr_rcr N R n j q).2.2.2)) H → va_D A (wX h rr cc cI N R ((sr_rcr N R n j q).1) li us ob sl go gi ((sr_rcr N R n j q).2.1) ((sr_rcr N R n j q).2.2.1) ((sr_rcr N R n j q).2.2.2)) → va_S A s.heap H locs → lv_has ls 3 [(0, .ref h), (1, .int i')] → W p l e { frames := 3, cells := 0, slots := 0, locals := 66 } s m args below meth c H locs 0 0 Q (F0 m 46 ls [])) →
      W p l e { frames := 3, cells := 0, slots := 0, locals := 66 } s m args below meth c H locs 0 0 Q (F0 m 21 ls []) := by
  intro n
  induction n with
  | zero =>
    intro j q H locs ls hst hP hD hS hl kk
    refine lv_iload_n hx hb dX_chainReached_21 rfl (lv_at hl 1 rfl) ?_
    refine lv_aload_n hx hb dX_chainReached_22 rfl (lv_at hl 0 rfl) ?_
    refine va_get (D := D) (ci := 0) (v := .ref rr) (C := RX) (T := TX) (N := 11) hx hb hbg bg_X hown hK hP 0 rfl rfl 0 (by decide) (hbg _ bw_51) (fun _ h9 => h9) rfl dX_chainReached_23 ?_
    refine va_alen hx hb hK hP 1 0 rfl rfl (v := nI 16) rfl dX_chainReached_26 ?_
    refine lv_icmp_ge (tgt := 46) hx hb dX_chainReached_27 (by decide) (fun _ => ?_) (fun z => absurd (nI_le (by omega) (by omega)) z)
    exact kk (nI j) _ _ _ hP hD hS (lv_sub hl [0, 1] rfl)
  | succ n ih =>
    intro j q H locs ls hst hP hD hS hl kk
    refine lv_iload_n hx hb dX_chainReached_21 rfl (lv_at hl 1 rfl) ?_
    refine lv_aload_n hx hb dX_chainReached_22 rfl (lv_at hl 0 rfl) ?_
    refine va_get (D := D) (ci := 0) (v := .ref rr) (C := RX) (T := TX) (N := 11) hx hb hbg bg_X hown hK hP 0 rfl rfl 0 (by decide) (hbg _ bw_51) (fun _ h9 => h9) rfl dX_chainReached_23 ?_
    refine va_alen hx hb hK hP 1 0 rfl rfl (v := nI 16) rfl dX_chainReached_26 ?_
    refine lv_icmp_ge (tgt := 46) hx hb dX_chainReached_27 (by decide) (fun z => absurd z (nI_ge (by omega) (by omega))) (fun _ => ?_)
    refine lv_aload_n hx hb dX_chainReached_30 rfl (lv_at hl 0 rfl) ?_
    refine lv_aload_n hx hb dX_chainReached_31 rfl (lv_at hl 0 rfl) ?_
    refine va_get (D := D) (ci := 0) (v := .ref rr) (C := RX) (T := TX) (N := 11) hx hb hbg bg_X hown hK hP 0 rfl rfl 0 (by decide) (hbg _ bw_51) (fun _ h9 => h9) rfl dX_chainReached_32 ?_
    refine lv_iload_n hx hb dX_chainReached_35 rfl (lv_at hl 1 rfl) ?_
    refine sy_iald (j := j) hx hb hK hP 1 0 rfl rfl (by omega) (by omega) dX_chainReached_36 ?_
    refine sy_cVv (wc := wX h rr cc cI N R q.1 li us ob sl go gi q.2.1 q.2.2.1 q.2.2.2) (wr := []) (w1 := wX h rr cc cI N R ((sr_rch N (q.1, q.2.1, q.2.2.1, q.2.2.2) (R j)).1) li us ob sl go gi ((sr_rch N (q.1, q.2.1, q.2.2.1, q.2.2.2) (R j)).2.1) ((sr_rch N (q.1, q.2.1, q.2.2.1, q.2.2.2) (R j)).2.2.1) ((sr_rch N (q.1, q.2.1, q.2.2.1, q.2.2.2) (R j)).2.2.2)) (ci := 0) (q0 := 0) (As := [.int (R j)]) (rest := []) ⟨hx, hb, hml, hown, hbg⟩ (ct_X_reach l D h rr cc cI N R q.1 li us ob sl go gi q.2.1 q.2.2.1 q.2.2.2 H.size (R j) hN) (cwV 1 hbg (bg_V bw_93 bw_94 bw_5 bw_34 bw_95) rfl rfl rfl (by decide +kernel) ⟨Nat.le_of_ble_eq_true rfl, Nat.le_of_ble_eq_true rfl⟩) hK [0] rfl hP hD hS hA [0, 1, 2] [] rfl rfl rfl rfl (by decide) rfl rfl rfl hl.1 rfl (Nat.le_of_ble_eq_true rfl) dX_chainReached_37 ⟨Nat.le_of_ble_eq_true rfl, Nat.le_of_ble_eq_true rfl⟩ (fun H locs hP hD hS => ?_)
    have hP : va_P D vwC (wX h rr cc cI N R ((sr_rch N (q.1, q.2.1, q.2.2.1, q.2.2.2) (R j)).1) li us ob sl go gi ((sr_rch N (q.1, q.2.1, q.2.2.1, q.2.2.2) (R j)).2.1) ((sr_rch N (q.1, q.2.1, q.2.2.1, q.2.2.2) (R j)).2.2.1) ((sr_rch N (q.1, q.2.1, q.2.2.1, q.2.2.2) (R j)).2.2.2)) H := hP
    have hD : va_D A (wX h rr cc cI N R ((sr_rch N (q.1, q.2.1, q.2.2.1, q.2.2.2) (R j)).1) li us ob sl go gi ((sr_rch N (q.1, q.2.1, q.2.2.1, q.2.2.2) (R j)).2.1) ((sr_rch N (q.1, q.2.1, q.2.2.1, q.2.2.2) (R j)).2.2.1) ((sr_rch N (q.1, q.2.1, q.2.2.1, q.2.2.2) (R j)).2.2.2)) := hD
    refine lv_iinc (v := nI (j + 1)) (lv' := [(1, .int (nI (j + 1))), (0, .ref h)]) hx hb dX_chainReached_40 hl (k := 1) rfl (nI_1 j) (by decide) rfl (fun ls hl => ?_)
    refine lv_goto (tgt := 21) hx hb dX_chainReached_43 (by decide) ?_
    exact ih (j + 1) (sr_rch N q (R j)) _ _ _ (by omega) hP hD hS (lv_sub hl [1, 0] rfl) kk

set_option maxHeartbeats 4000000 in
set_option maxRecDepth 100000 in
theorem lp_X_chainB  (hx : p.tables.exec = Jvm.exec) (hb : c.code = bX_chainReached) (hml : c.maxLocals = 3) (hown : s.vm.findClass RX = some m.cls) (hbg : ∀ w ∈ sr_big, w.before args s = true) (hK : va_K D vwC [(cI, .int)] s) (hA : ∀ q : Nat, s.heap.size ≤ q → A q) (hN : N < 2 ^ 31) :
    ∀ (n j : Nat) (a : Int32) (q : sr_Q) (H : Heap) (locs : List Loc) (ls : Array Slot), j + n = ob.toNatClampNeg → va_P D vwC (wX h rr cc cI N R q.1 li us ob sl go gi q.2.1 q.2.2.1 q.2.2.2) H → va_D A (wX h rr cc cI N R q.1 li us ob sl go gi q.2.1 q.2.2.1 q.2.2.2) → va_S A s.heap H locs → lv_has ls 3 [(0, .ref h), (1, .int a), (2, .int (nI j))] →
      (∀ (a' i' : Int32) (H : Heap) (locs : List Loc) (ls : Array Slot), va_P D vwC (wX h rr cc cI N R ((sr_chn N n a q).1) li us ob sl go gi ((sr_chn N n a q).2.1) ((sr_chn N n a q).2.2.1) ((sr_chn N n a q).2.2.2)) H → va_D A (wX h rr cc cI N R ((sr_chn N n a q).1) li us ob sl go gi ((sr_chn N n a q).2.1) ((sr_chn N n a q).2.2.1) ((sr_chn N n a q).2.2.2)) → va_S A s.heap H locs → lv_has ls 3 [(0, .ref h), (1, .int a'), (2, .int i')] → W p l e { frames := 3, cells := 0, slots := 0, locals := 66 } s m args below meth c H locs 0 0 Q (F0 m 84 ls [])) →
      W p l e { frames := 3, cells := 0, slots := 0, locals := 66 } s m args below meth c H locs 0 0 Q (F0 m 53 ls []) := by
  intro n
  induction n with
  | zero =>
    intro j a q H locs ls hst hP hD hS hl kk
    refine lv_iload_n hx hb dX_chainReached_53 rfl (lv_at hl 2 rfl) ?_
    refine lv_aload_n hx hb dX_chainReached_54 rfl (lv_at hl 0 rfl) ?_
    refine va_get (D := D) (ci := 0) (v := .int ob) (C := RX) (T := TX) (N := 11) hx hb hbg bg_X hown hK hP 0 rfl rfl 4 (by decide) (hbg _ bw_55) (fun _ h9 => h9) rfl dX_chainReached_55 ?_
    refine lv_icmp_ge (tgt := 84) hx hb dX_chainReached_58 (by decide) (fun _ => ?_) (fun z => absurd ((sr_cle (by have := sr_clt ob; omega)).mpr (by omega)) z)
    exact kk a (nI j) _ _ _ hP hD hS (lv_sub hl [0, 1, 2] rfl)
  | succ n ih =>
    intro j a q H locs ls hst hP hD hS hl kk
    refine lv_iload_n hx hb dX_chainReached_53 rfl (lv_at hl 2 rfl) ?_
    refine lv_aload_n hx hb dX_chainReached_54 rfl (lv_at hl 0 rfl) ?_
    refine va_get (D := D) (ci := 0) (v := .int ob) (C := RX) (T := TX) (N := 11) hx hb hbg bg_X hown hK hP 0 rfl rfl 4 (by decide) (hbg _ bw_55) (fun _ h9 => h9) rfl dX_chainReached_55 ?_
    refine lv_icmp_ge (tgt := 84) hx hb dX_chainReached_58 (by decide) (fun z => absurd z (fun z => absurd ((sr_cle (by have := sr_clt ob; omega)).mp z) (by omega))) (fun _ => ?_)
    refine lv_iload_n hx hb dX_chainReached_61 rfl (lv_at hl 1 rfl) ?_
    refine lv_if_le (tgt := 84) hx hb dX_chainReached_62 (by decide) (fun c_62 => ?_) (fun c_62 => ?_)
    · have es : sr_chn N (n + 1) a q = q := by simp only [sr_chn, c_62, ↓reduceIte]
      rw [es] at kk
      exact kk a (nI j) _ _ _ hP hD hS (lv_sub hl [0, 1, 2] rfl)
    · refine lv_aload_n hx hb dX_chainReached_65 rfl (lv_at hl 0 rfl) ?_
      refine lv_iload_n hx hb dX_chainReached_66 rfl (lv_at hl 1 rfl) ?_
      refine sy_cVv (wc := wX h rr cc cI N R q.1 li us ob sl go gi q.2.1 q.2.2.1 q.2.2.2) (wr := []) (w1 := wX h rr cc cI N R ((sr_rcf N a (sr_fi N q.1 a).toNatClampNeg 0 (q.1, q.2.1, q.2.2.1, q.2.2.2)).1) li us ob sl go gi ((sr_rcf N a (sr_fi N q.1 a).toNatClampNeg 0 (q.1, q.2.1, q.2.2.1, q.2.2.2)).2.1) ((sr_rcf N a (sr_fi N q.1 a).toNatClampNeg 0 (q.1, q.2.1, q.2.2.1, q.2.2.2)).2.2.1) ((sr_rcf N a (sr_fi N q.1 a).toNatClampNeg 0 (q.1, q.2.1, q.2.2.1, q.2.2.2)).2.2.2)) (ci := 0) (q0 := 0) (As := [.int a]) (rest := []) ⟨hx, hb, hml, hown, hbg⟩ (ct_X_reachFieldsOf l D h rr cc cI N R q.1 li us ob sl go gi q.2.1 q.2.2.1 q.2.2.2 H.size a hN) (cwV 1 hbg (bg_V bw_96 bw_97 bw_6 bw_34 bw_98) rfl rfl rfl (by decide +kernel) ⟨Nat.le_of_ble_eq_true rfl, Nat.le_of_ble_eq_true rfl⟩) hK [0] rfl hP hD hS hA [0, 1, 2] [] rfl rfl rfl rfl (by decide) rfl rfl rfl hl.1 rfl (Nat.le_of_ble_eq_true rfl) dX_chainReached_67 ⟨Nat.le_of_ble_eq_true rfl, Nat.le_of_ble_eq_true rfl⟩ (fun H locs hP hD hS => ?_)
      have hP : va_P D vwC (wX h rr cc cI N R ((sr_rcf N a (sr_fi N q.1 a).toNatClampNeg 0 (q.1, q.2.1, q.2.2.1, q.2.2.2)).1) li us ob sl go gi ((sr_rcf N a (sr_fi N q.1 a).toNatClampNeg 0 (q.1, q.2.1, q.2.2.1, q.2.2.2)).2.1) ((sr_rcf N a (sr_fi N q.1 a).toNatClampNeg 0 (q.1, q.2.1, q.2.2.1, q.2.2.2)).2.2.1) ((sr_rcf N a (sr_fi N q.1 a).toNatClampNeg 0 (q.1, q.2.1, q.2.2.1, q.2.2.2)).2.2.2)) H := hP
      have hD : va_D A (wX h rr cc cI N R ((sr_rcf N a (sr_fi N q.1 a).toNatClampNeg 0 (q.1, q.2.1, q.2.2.1, q.2.2.2)).1) li us ob sl go gi ((sr_rcf N a (sr_fi N q.1 a).toNatClampNeg 0 (q.1, q.2.1, q.2.2.1, q.2.2.2)).2.1) ((sr_rcf N a (sr_fi N q.1 a).toNatClampNeg 0 (q.1, q.2.1, q.2.2.1, q.2.2.2)).2.2.1) ((sr_rcf N a (sr_fi N q.1 a).toNatClampNeg 0 (q.1, q.2.1, q.2.2.1, q.2.2.2)).2.2.2)) := hD
      refine lv_aload_n hx hb dX_chainReached_70 rfl (lv_at hl 0 rfl) ?_
      refine lv_iload_n hx hb dX_chainReached_71 rfl (lv_at hl 1 rfl) ?_
      refine lv_iconst (v := 2) hx hb dX_chainReached_72 (by decide) ?_
      refine lv_iadd hx hb dX_chainReached_73 ?_
      refine sy_cVi (wc := wX h rr cc cI N R ((sr_rcf N a (sr_fi N q.1 a).toNatClampNeg 0 (q.1, q.2.1, q.2.2.1, q.2.2.2)).1) li us ob sl go gi ((sr_rcf N a (sr_fi N q.1 a).toNatClampNeg 0 (q.1, q.2.1, q.2.2.1, q.2.2.2)).2.1) ((sr_rcf N a (sr_fi N q.1 a).toNatClampNeg 0 (q.1, q.2.1, q.2.2.1, q.2.2.2)).2.2.1) ((sr_rcf N a (sr_fi N q.1 a).toNatClampNeg 0 (q.1, q.2.1, q.2.2.1, q.2.2.2)).2.2.2)) (wr := []) (w1 := wX h rr cc cI N R ((sr_rcf N a (sr_fi N q.1 a).toNatClampNeg 0 (q.1, q.2.1, q.2.2.1, q.2.2.2)).1) li us ob sl go gi ((sr_rcf N a (sr_fi N q.1 a).toNatClampNeg 0 (q.1, q.2.1, q.2.2.1, q.2.2.2)).2.1) ((sr_rcf N a (sr_fi N q.1 a).toNatClampNeg 0 (q.1, q.2.1, q.2.2.1, q.2.2.2)).2.2.1) ((sr_rcf N a (sr_fi N q.1 a).toNatClampNeg 0 (q.1, q.2.1, q.2.2.1, q.2.2.2)).2.2.2)) (ci := 0) (q0 := 0) (As := [.int (a + 2)]) (rest := []) ⟨hx, hb, hml, hown, hbg⟩ (ct_X_read l D h rr cc cI N R ((sr_rcf N a (sr_fi N q.1 a).toNatClampNeg 0 (q.1, q.2.1, q.2.2.1, q.2.2.2)).1) li us ob sl go gi ((sr_rcf N a (sr_fi N q.1 a).toNatClampNeg 0 (q.1, q.2.1, q.2.2.1, q.2.2.2)).2.1) ((sr_rcf N a (sr_fi N q.1 a).toNatClampNeg 0 (q.1, q.2.1, q.2.2.1, q.2.2.2)).2.2.1) ((sr_rcf N a (sr_fi N q.1 a).toNatClampNeg 0 (q.1, q.2.1, q.2.2.1, q.2.2.2)).2.2.2) H.size (a + 2) hN) (cwV 1 hbg (bg_V bw_90 bw_91 bw_4 bw_34 bw_92) rfl rfl rfl (by decide +kernel) ⟨Nat.le_of_ble_eq_true rfl, Nat.le_of_ble_eq_true rfl⟩) hK [0] rfl hP hD hS hA [0, 1, 2] [] rfl rfl rfl rfl (by decide) rfl rfl rfl hl.1 rfl (Nat.le_of_ble_eq_true rfl) dX_chainReached_74 ⟨Nat.le_of_ble_eq_true rfl, Nat.le_of_ble_eq_true rfl⟩ (fun H locs hP hD hS => ?_)
      have hP : va_P D vwC (wX h rr cc cI N R ((sr_rcf N a (sr_fi N q.1 a).toNatClampNeg 0 (q.1, q.2.1, q.2.2.1, q.2.2.2)).1) li us ob sl go gi ((sr_rcf N a (sr_fi N q.1 a).toNatClampNeg 0 (q.1, q.2.1, q.2.2.1, q.2.2.2)).2.1) ((sr_rcf N a (sr_fi N q.1 a).toNatClampNeg 0 (q.1, q.2.1, q.2.2.1, q.2.2.2)).2.2.1) ((sr_rcf N a (sr_fi N q.1 a).toNatClampNeg 0 (q.1, q.2.1, q.2.2.1, q.2.2.2)).2.2.2)) H := hP
      have hD : va_D A (wX h rr cc cI N R ((sr_rcf N a (sr_fi N q.1 a).toNatClampNeg 0 (q.1, q.2.1, q.2.2.1, q.2.2.2)).1) li us ob sl go gi ((sr_rcf N a (sr_fi N q.1 a).toNatClampNeg 0 (q.1, q.2.1, q.2.2.1, q.2.2.2)).2.1) ((sr_rcf N a (sr_fi N q.1 a).toNatClampNeg 0 (q.1, q.2.1, q.2.2.1, q.2.2.2)).2.2.1) ((sr_rcf N a (sr_fi N q.1 a).toNatClampNeg 0 (q.1, q.2.1, q.2.2.1, q.2.2.2)).2.2.2)) := hD
      refine lv_istore_n (lv' := [(1, .int (sr_rd N ((sr_rcf N a (sr_fi N q.1 a).toNatClampNeg 0 (q.1, q.2.1, q.2.2.1, q.2.2.2)).1) (a + 2))), (0, .ref h), (2, .int (nI j))]) hx hb dX_chainReached_77 rfl hl (by decide) rfl (fun ls hl => ?_)
      refine lv_iinc (v := nI (j + 1)) (lv' := [(2, .int (nI (j + 1))), (1, .int (sr_rd N ((sr_rcf N a (sr_fi N q.1 a).toNatClampNeg 0 (q.1, q.2.1, q.2.2.1, q.2.2.2)).1) (a + 2))), (0, .ref h)]) hx hb dX_chainReached_78 hl (k := 2) rfl (nI_1 j) (by decide) rfl (fun ls hl => ?_)
      refine lv_goto (tgt := 53) hx hb dX_chainReached_81 (by decide) ?_
      have es : sr_chn N (n + 1) a q = sr_chn N n (sr_rd N (sr_rcf N a (sr_fi N q.1 a).toNatClampNeg 0 q).1 (a + 2)) (sr_rcf N a (sr_fi N q.1 a).toNatClampNeg 0 q) := by simp only [sr_chn, c_62, ↓reduceIte]
      rw [es] at kk
      exact ih (j + 1) (sr_rd N ((sr_rcf N a (sr_fi N q.1 a).toNatClampNeg 0 (q.1, q.2.1, q.2.2.1, q.2.2.2)).1) (a + 2)) (sr_rcf N a (sr_fi N q.1 a).toNatClampNeg 0 q) _ _ _ (by omega) hP hD hS (lv_sub hl [2, 1, 0] rfl) kk

set_option maxHeartbeats 4000000 in
set_option maxRecDepth 100000 in
theorem ct_X_chainReached (l : Launch) (D : va_G) (h rr cc : Nat) (cI : ClassId) (N : Nat) (R C : Nat → Int32) (li us ob sl go gi fr la re : Int32) (sz : Nat) (hN : N < 2 ^ 31) : sy_Mv l yX_chainReached (Cond.code yX_chainReached bX_chainReached 3 none :: sr_big) { frames := 3, cells := 0, slots := 0, locals := 66 } D vwC [(cI, .int)] [.ref h] (wX h rr cc cI N R C li us ob sl go gi fr la re) sz (wX h rr cc cI N R ((sr_chR N R ob.toNatClampNeg C).1) li us ob sl go gi ((sr_chR N R ob.toNatClampNeg C).2.1) ((sr_chR N R ob.toNatClampNeg C).2.2.1) ((sr_chR N R ob.toNatClampNeg C).2.2.2)) 0 0 := by
  refine Met.ofW (cc := bX_chainReached) (maxL := 3) (ret := none) (by decide) rfl ?_
  intro p e s m args below meth c s₁ B hml hv
  obtain ⟨rfl, hsz, hP, hK, hD0⟩ := hv
  have hx := B.exec
  have hb := B.bytes
  have hr := B.returns
  have hbg : ∀ w ∈ sr_big, w.before _ s = true := fun w h => atoms_spec (ws := Cond.code yX_chainReached bX_chainReached 3 none :: sr_big) B.pre w (List.mem_cons_of_mem _ h)
  have hown : s.vm.findClass RX = some m.cls := findClass_of_methodNamed B.named
  have hlocks := B.notSynchronized
  subst hsz
  have hD := hD0.self (sz := s.heap.size)
  generalize hAe : va_A (wX h rr cc cI N R C li us ob sl go gi fr la re) s.heap.size = A at *
  have hA : ∀ q : Nat, s.heap.size ≤ q → A q := fun q h => by rw [← hAe]; exact Or.inr h
  have hS : va_S A s.heap s.heap [] := va_S.rf
  have hl := lv_entry ([.ref h]) (n := 3) (Nat.le_of_ble_eq_true rfl)
  rw [lg_entry_eq]
  generalize (lg_sl ([.ref h]) ++ List.replicate (3 - (lg_sl ([.ref h])).length) Slot.unset).toArray = ls at hl ⊢
  have hl : lv_has ls 3 [(0, .ref h)] := hl
  refine lv_aload_n hx hb dX_chainReached_0 rfl (lv_at hl 0 rfl) ?_
  refine sy_cVv (wc := wX h rr cc cI N R C li us ob sl go gi fr la re) (wr := []) (w1 := wX h rr cc cI N R (sr_clr N ob.toNatClampNeg C 1) li us ob sl go gi fr la re) (ci := 0) (q0 := 0) (As := []) (rest := []) ⟨hx, hb, hml, hown, hbg⟩ (ct_X_clearLinks l D h rr cc cI N R C li us ob sl go gi fr la re s.heap.size  hN) (cwV 0 hbg (bg_V bw_81 bw_82 bw_1 bw_34 bw_83) rfl rfl rfl (by decide +kernel) ⟨Nat.le_of_ble_eq_true rfl, Nat.le_of_ble_eq_true rfl⟩) hK [0] rfl hP hD hS hA [0, 1, 2] [] rfl rfl rfl rfl (by decide) rfl rfl rfl hl.1 rfl (Nat.le_of_ble_eq_true rfl) dX_chainReached_1 ⟨Nat.le_of_ble_eq_true rfl, Nat.le_of_ble_eq_true rfl⟩ (fun H locs hP hD hS => ?_)
  have hP : va_P D vwC (wX h rr cc cI N R (sr_clr N ob.toNatClampNeg C 1) li us ob sl go gi fr la re) H := hP
  have hD : va_D A (wX h rr cc cI N R (sr_clr N ob.toNatClampNeg C 1) li us ob sl go gi fr la re) := hD
  refine lv_aload_n hx hb dX_chainReached_4 rfl (lv_at hl 0 rfl) ?_
  refine lv_iconst (v := 0) hx hb dX_chainReached_5 (by decide) ?_
  refine va_put (D := D) (ci := 0) (v := .int 0) (ty := .int) (C := RX) (T := TX) (N := 11) hx hb hbg bg_X tX tX_ok nX hown hK hP hD hS 0 rfl rfl 8 (by decide) (hbg _ bw_59) (fun _ h9 => h9) rfl (by decide +kernel) rfl rfl (Nat.le_of_ble_eq_true rfl) dX_chainReached_6 (fun H locs hP hD hS => ?_)
  have hP : va_P D vwC (wX h rr cc cI N R (sr_clr N ob.toNatClampNeg C 1) li us ob sl go gi 0 la re) H := hP
  have hD : va_D A (wX h rr cc cI N R (sr_clr N ob.toNatClampNeg C 1) li us ob sl go gi 0 la re) := hD
  refine lv_aload_n hx hb dX_chainReached_9 rfl (lv_at hl 0 rfl) ?_
  refine lv_iconst (v := 0) hx hb dX_chainReached_10 (by decide) ?_
  refine va_put (D := D) (ci := 0) (v := .int 0) (ty := .int) (C := RX) (T := TX) (N := 11) hx hb hbg bg_X tX tX_ok nX hown hK hP hD hS 0 rfl rfl 9 (by decide) (hbg _ bw_60) (fun _ h9 => h9) rfl (by decide +kernel) rfl rfl (Nat.le_of_ble_eq_true rfl) dX_chainReached_11 (fun H locs hP hD hS => ?_)
  have hP : va_P D vwC (wX h rr cc cI N R (sr_clr N ob.toNatClampNeg C 1) li us ob sl go gi 0 0 re) H := hP
  have hD : va_D A (wX h rr cc cI N R (sr_clr N ob.toNatClampNeg C 1) li us ob sl go gi 0 0 re) := hD
  refine lv_aload_n hx hb dX_chainReached_14 rfl (lv_at hl 0 rfl) ?_
  refine lv_iconst (v := 0) hx hb dX_chainReached_15 (by decide) ?_
  refine va_put (D := D) (ci := 0) (v := .int 0) (ty := .int) (C := RX) (T := TX) (N := 11) hx hb hbg bg_X tX tX_ok nX hown hK hP hD hS 0 rfl rfl 10 (by decide) (hbg _ bw_61) (fun _ h9 => h9) rfl (by decide +kernel) rfl rfl (Nat.le_of_ble_eq_true rfl) dX_chainReached_16 (fun H locs hP hD hS => ?_)
  have hP : va_P D vwC (wX h rr cc cI N R (sr_clr N ob.toNatClampNeg C 1) li us ob sl go gi 0 0 0) H := hP
  have hD : va_D A (wX h rr cc cI N R (sr_clr N ob.toNatClampNeg C 1) li us ob sl go gi 0 0 0) := hD
  refine lv_iconst (v := 0) hx hb dX_chainReached_19 (by decide) ?_
  refine lv_istore_n (lv' := [(1, .int 0), (0, .ref h)]) hx hb dX_chainReached_20 rfl hl (by decide) rfl (fun ls hl => ?_)
  refine lp_X_chainA hx hb hml hown hbg hK hA hN 16 0 (sr_clr N ob.toNatClampNeg C 1, 0, 0, 0) _ _ _ (by simp) hP hD hS (lv_sub hl [1, 0] rfl) ?_
  intro i' H locs ls hP hD hS hl
  refine lv_aload_n hx hb dX_chainReached_46 rfl (lv_at hl 0 rfl) ?_
  refine va_get (D := D) (ci := 0) (v := .int ((sr_rcr N R 16 0 (sr_clr N ob.toNatClampNeg C 1, 0, 0, 0)).2.1)) (C := RX) (T := TX) (N := 11) hx hb hbg bg_X hown hK hP 0 rfl rfl 8 (by decide) (hbg _ bw_59) (fun _ h9 => h9) rfl dX_chainReached_47 ?_
  refine lv_istore_n (lv' := [(1, .int ((sr_rcr N R 16 0 (sr_clr N ob.toNatClampNeg C 1, 0, 0, 0)).2.1)), (0, .ref h)]) hx hb dX_chainReached_50 rfl hl (by decide) rfl (fun ls hl => ?_)
  refine lv_iconst (v := 0) hx hb dX_chainReached_51 (by decide) ?_
  refine lv_istore_n (lv' := [(2, .int 0), (1, .int ((sr_rcr N R 16 0 (sr_clr N ob.toNatClampNeg C 1, 0, 0, 0)).2.1)), (0, .ref h)]) hx hb dX_chainReached_52 rfl hl (by decide) rfl (fun ls hl => ?_)
  refine lp_X_chainB hx hb hml hown hbg hK hA hN ob.toNatClampNeg 0 (sr_rcr N R 16 0 (sr_clr N ob.toNatClampNeg C 1, 0, 0, 0)).2.1 (sr_rcr N R 16 0 (sr_clr N ob.toNatClampNeg C 1, 0, 0, 0)) _ _ _ (by simp) hP hD hS (lv_sub hl [2, 1, 0] rfl) ?_
  intro a' i' H locs ls hP hD hS hl
  refine W.widen (k := 0) (n := 0) (Nat.le_of_ble_eq_true rfl) (Nat.le_of_ble_eq_true rfl) ?_
  exact W.vret hx hb hr (fun t ht hW => ⟨⟨(), rfl, trivial, by rw [ht]; exact hP, va_K.moved hW.alike hK, hD⟩, hS.F ht⟩) hS.2.2 dX_chainReached_84

set_option maxHeartbeats 4000000 in
set_option maxRecDepth 100000 in
theorem ct_X_placeOf (l : Launch) (D : va_G) (h rr cc : Nat) (cI : ClassId) (N : Nat) (R C : Nat → Int32) (li us ob sl go gi fr la re : Int32) (sz : Nat) (v : Int32) (hN : N < 2 ^ 31) : sy_Mi l yX_placeOf (Cond.code yX_placeOf bX_placeOf 2 (some .int) :: sr_big) { frames := 1, cells := 0, slots := 0, locals := 21 } D vwC [(cI, .int)] [.ref h, .int v] (wX h rr cc cI N R C li us ob sl go gi fr la re) sz (sr_po N C v) (wX h rr cc cI N R C li us ob sl go gi fr la re) 0 0 := by
  refine Met.ofW (cc := bX_placeOf) (maxL := 2) (ret := (some .int)) (by decide) rfl ?_
  intro p e s m args below meth c s₁ B hml hv
  obtain ⟨rfl, hsz, hP, hK, hD0⟩ := hv
  have hx := B.exec
  have hb := B.bytes
  have hr := B.returns
  have hbg : ∀ w ∈ sr_big, w.before _ s = true := fun w h => atoms_spec (ws := Cond.code yX_placeOf bX_placeOf 2 (some .int) :: sr_big) B.pre w (List.mem_cons_of_mem _ h)
  have hown : s.vm.findClass RX = some m.cls := findClass_of_methodNamed B.named
  have hlocks := B.notSynchronized
  subst hsz
  have hD := hD0.self (sz := s.heap.size)
  generalize hAe : va_A (wX h rr cc cI N R C li us ob sl go gi fr la re) s.heap.size = A at *
  have hA : ∀ q : Nat, s.heap.size ≤ q → A q := fun q h => by rw [← hAe]; exact Or.inr h
  have hS : va_S A s.heap s.heap [] := va_S.rf
  have hl := lv_entry ([.ref h, .int v]) (n := 2) (Nat.le_of_ble_eq_true rfl)
  rw [lg_entry_eq]
  generalize (lg_sl ([.ref h, .int v]) ++ List.replicate (2 - (lg_sl ([.ref h, .int v])).length) Slot.unset).toArray = ls at hl ⊢
  have hl : lv_has ls 2 [(0, .ref h), (1, .int v)] := hl
  refine lv_iload_n hx hb dX_placeOf_0 rfl (lv_at hl 1 rfl) ?_
  refine lv_if_ne (tgt := 8) hx hb dX_placeOf_1 (by decide) (fun c_1 => ?_) (fun c_1 => ?_)
  · refine lv_aload_n hx hb dX_placeOf_8 rfl (lv_at hl 0 rfl) ?_
    refine lv_iload_n hx hb dX_placeOf_9 rfl (lv_at hl 1 rfl) ?_
    refine lv_iconst (v := 2) hx hb dX_placeOf_10 (by decide) ?_
    refine lv_iadd hx hb dX_placeOf_11 ?_
    refine sy_cVi (wc := wX h rr cc cI N R C li us ob sl go gi fr la re) (wr := []) (w1 := wX h rr cc cI N R C li us ob sl go gi fr la re) (ci := 0) (q0 := 0) (As := [.int (v + 2)]) (rest := []) ⟨hx, hb, hml, hown, hbg⟩ (ct_X_read l D h rr cc cI N R C li us ob sl go gi fr la re s.heap.size (v + 2) hN) (cwV 1 hbg (bg_V bw_90 bw_91 bw_4 bw_34 bw_92) rfl rfl rfl (by decide +kernel) ⟨Nat.le_of_ble_eq_true rfl, Nat.le_of_ble_eq_true rfl⟩) hK [0] rfl hP hD hS hA [0, 1, 2] [] rfl rfl rfl rfl (by decide) rfl rfl rfl hl.1 rfl (Nat.le_of_ble_eq_true rfl) dX_placeOf_12 ⟨Nat.le_of_ble_eq_true rfl, Nat.le_of_ble_eq_true rfl⟩ (fun H locs hP hD hS => ?_)
    have hP : va_P D vwC (wX h rr cc cI N R C li us ob sl go gi fr la re) H := hP
    have hD : va_D A (wX h rr cc cI N R C li us ob sl go gi fr la re) := hD
    refine W.widen (k := 0) (n := 0) (Nat.le_of_ble_eq_true rfl) (Nat.le_of_ble_eq_true rfl) ?_
    exact W.iret (v := sr_rd N C (v + 2)) hx hb hr (fun t ht hW => ⟨⟨sr_rd N C (v + 2), (), rfl, (by simp only [sr_po, c_1, ↓reduceIte]), by rw [ht]; exact hP, va_K.moved hW.alike hK, hD⟩, hS.F ht⟩) hS.2.2 dX_placeOf_15
  · refine lv_iconst (v := 0) hx hb dX_placeOf_4 (by decide) ?_
    refine lv_goto (tgt := 15) hx hb dX_placeOf_5 (by decide) ?_
    refine W.widen (k := 0) (n := 0) (Nat.le_of_ble_eq_true rfl) (Nat.le_of_ble_eq_true rfl) ?_
    exact W.iret (v := 0) hx hb hr (fun t ht hW => ⟨⟨0, (), rfl, (by simp only [sr_po, c_1, ↓reduceIte]), by rw [ht]; exact hP, va_K.moved hW.alike hK, hD⟩, hS.F ht⟩) hS.2.2 dX_placeOf_15

set_option maxHeartbeats 4000000 in
set_option maxRecDepth 100000 in
theorem lp_X_choosePlaces {fr la re : Int32} (hx : p.tables.exec = Jvm.exec) (hb : c.code = bX_choosePlaces) (hml : c.maxLocals = 5) (hown : s.vm.findClass RX = some m.cls) (hbg : ∀ w ∈ sr_big, w.before args s = true) (hK : va_K D vwC [(cI, .int)] s) (hA : ∀ q : Nat, s.heap.size ≤ q → A q) (hN : N < 2 ^ 31) :
    ∀ (n j : Nat) (C : Nat → Int32) (t a : Int32) (H : Heap) (locs : List Loc) (ls : Array Slot), j + n = ob.toNatClampNeg → va_P D vwC (wX h rr cc cI N R C li us ob sl go gi fr la re) H → va_D A (wX h rr cc cI N R C li us ob sl go gi fr la re) → va_S A s.heap H locs → lv_has ls 5 [(0, .ref h), (1, .int t), (2, .int a), (3, .int (nI j))] →
      (∀ (a' i' : Int32) (H : Heap) (locs : List Loc) (ls : Array Slot), va_P D vwC (wX h rr cc cI N R ((sr_chp N n C t a).1) li us ob sl go gi fr la re) H → va_D A (wX h rr cc cI N R ((sr_chp N n C t a).1) li us ob sl go gi fr la re) → va_S A s.heap H locs → lv_has ls 5 [(0, .ref h), (1, .int ((sr_chp N n C t a).2)), (2, .int a'), (3, .int i')] → W p l e { frames := 2, cells := 0, slots := 0, locals := 43 } s m args below meth c H locs 0 0 Q (F0 m 57 ls [])) →
      W p l e { frames := 2, cells := 0, slots := 0, locals := 43 } s m args below meth c H locs 0 0 Q (F0 m 6 ls []) := by
  intro n
  induction n with
  | zero =>
    intro j C t a H locs ls hst hP hD hS hl kk
    refine lv_iload_n hx hb dX_choosePlaces_6 rfl (lv_at hl 3 rfl) ?_
    refine lv_aload_n hx hb dX_choosePlaces_7 rfl (lv_at hl 0 rfl) ?_
    refine va_get (D := D) (ci := 0) (v := .int ob) (C := RX) (T := TX) (N := 11) hx hb hbg bg_X hown hK hP 0 rfl rfl 4 (by decide) (hbg _ bw_55) (fun _ h9 => h9) rfl dX_choosePlaces_8 ?_
    refine lv_icmp_ge (tgt := 57) hx hb dX_choosePlaces_11 (by decide) (fun _ => ?_) (fun z => absurd ((sr_cle (by have := sr_clt ob; omega)).mpr (by omega)) z)
    exact kk a (nI j) _ _ _ hP hD hS (lv_sub hl [0, 1, 2, 3] rfl)
  | succ n ih =>
    intro j C t a H locs ls hst hP hD hS hl kk
    refine lv_iload_n hx hb dX_choosePlaces_6 rfl (lv_at hl 3 rfl) ?_
    refine lv_aload_n hx hb dX_choosePlaces_7 rfl (lv_at hl 0 rfl) ?_
    refine va_get (D := D) (ci := 0) (v := .int ob) (C := RX) (T := TX) (N := 11) hx hb hbg bg_X hown hK hP 0 rfl rfl 4 (by decide) (hbg _ bw_55) (fun _ h9 => h9) rfl dX_choosePlaces_8 ?_
    refine lv_icmp_ge (tgt := 57) hx hb dX_choosePlaces_11 (by decide) (fun z => absurd z (fun z => absurd ((sr_cle (by have := sr_clt ob; omega)).mp z) (by omega))) (fun _ => ?_)
    refine lv_aload_n hx hb dX_choosePlaces_14 rfl (lv_at hl 0 rfl) ?_
    refine lv_iload_n hx hb dX_choosePlaces_15 rfl (lv_at hl 2 rfl) ?_
    refine sy_cVi (wc := wX h rr cc cI N R C li us ob sl go gi fr la re) (wr := []) (w1 := wX h rr cc cI N R C li us ob sl go gi fr la re) (ci := 0) (q0 := 0) (As := [.int a]) (rest := []) ⟨hx, hb, hml, hown, hbg⟩ (ct_X_sizeOf l D h rr cc cI N R C li us ob sl go gi fr la re H.size a hN) (cwV 1 hbg (bg_V bw_87 bw_88 bw_3 bw_34 bw_89) rfl rfl rfl (by decide +kernel) ⟨Nat.le_of_ble_eq_true rfl, Nat.le_of_ble_eq_true rfl⟩) hK [0] rfl hP hD hS hA [0, 1, 2] [] rfl rfl rfl rfl (by decide) rfl rfl rfl hl.1 rfl (Nat.le_of_ble_eq_true rfl) dX_choosePlaces_16 ⟨Nat.le_of_ble_eq_true rfl, Nat.le_of_ble_eq_true rfl⟩ (fun H locs hP hD hS => ?_)
    have hP : va_P D vwC (wX h rr cc cI N R C li us ob sl go gi fr la re) H := hP
    have hD : va_D A (wX h rr cc cI N R C li us ob sl go gi fr la re) := hD
    refine lv_istore (lv' := [(4, .int (sr_si N C a)), (0, .ref h), (1, .int t), (2, .int a), (3, .int (nI j))]) hx hb dX_choosePlaces_19 hl (by decide) rfl (fun ls hl => ?_)
    refine lv_aload_n hx hb dX_choosePlaces_21 rfl (lv_at hl 1 rfl) ?_
    refine lv_iload_n hx hb dX_choosePlaces_22 rfl (lv_at hl 3 rfl) ?_
    refine lv_iconst (v := 2) hx hb dX_choosePlaces_23 (by decide) ?_
    refine lv_iadd hx hb dX_choosePlaces_24 ?_
    refine sy_cVi (wc := wX h rr cc cI N R C li us ob sl go gi fr la re) (wr := []) (w1 := wX h rr cc cI N R C li us ob sl go gi fr la re) (ci := 0) (q0 := 0) (As := [.int (a + 2)]) (rest := []) ⟨hx, hb, hml, hown, hbg⟩ (ct_X_read l D h rr cc cI N R C li us ob sl go gi fr la re H.size (a + 2) hN) (cwV 1 hbg (bg_V bw_90 bw_91 bw_4 bw_34 bw_92) rfl rfl rfl (by decide +kernel) ⟨Nat.le_of_ble_eq_true rfl, Nat.le_of_ble_eq_true rfl⟩) hK [0] rfl hP hD hS hA [0, 1, 2] [] rfl rfl rfl rfl (by decide) rfl rfl rfl hl.1 rfl (Nat.le_of_ble_eq_true rfl) dX_choosePlaces_25 ⟨Nat.le_of_ble_eq_true rfl, Nat.le_of_ble_eq_true rfl⟩ (fun H locs hP hD hS => ?_)
    have hP : va_P D vwC (wX h rr cc cI N R C li us ob sl go gi fr la re) H := hP
    have hD : va_D A (wX h rr cc cI N R C li us ob sl go gi fr la re) := hD
    refine lv_if_eq (tgt := 46) hx hb dX_choosePlaces_28 (by decide) (fun c_28 => ?_) (fun c_28 => ?_)
    · refine lv_iload_n hx hb dX_choosePlaces_46 rfl (lv_at hl 3 rfl) ?_
      refine lv_iload hx hb dX_choosePlaces_47 (lv_at hl 0 rfl) ?_
      refine lv_iadd hx hb dX_choosePlaces_49 ?_
      refine lv_istore_n (lv' := [(2, .int (a + (sr_si N C a))), (4, .int (sr_si N C a)), (0, .ref h), (1, .int t), (3, .int (nI j))]) hx hb dX_choosePlaces_50 rfl hl (by decide) rfl (fun ls hl => ?_)
      refine lv_iinc (v := nI (j + 1)) (lv' := [(3, .int (nI (j + 1))), (2, .int (a + (sr_si N C a))), (4, .int (sr_si N C a)), (0, .ref h), (1, .int t)]) hx hb dX_choosePlaces_51 hl (k := 4) rfl (nI_1 j) (by decide) rfl (fun ls hl => ?_)
      refine lv_goto (tgt := 6) hx hb dX_choosePlaces_54 (by decide) ?_
      have es : sr_chp N (n + 1) C t a = sr_chp N n C t (a + (sr_si N C a)) := by simp only [sr_chp, c_28, ↓reduceIte]
      rw [es] at kk
      exact ih (j + 1) C t (a + (sr_si N C a)) _ _ _ (by omega) hP hD hS (lv_sub hl [3, 4, 1, 0] rfl) kk
    · refine lv_aload_n hx hb dX_choosePlaces_31 rfl (lv_at hl 1 rfl) ?_
      refine lv_iload_n hx hb dX_choosePlaces_32 rfl (lv_at hl 3 rfl) ?_
      refine lv_iconst (v := 2) hx hb dX_choosePlaces_33 (by decide) ?_
      refine lv_iadd hx hb dX_choosePlaces_34 ?_
      refine lv_iconst (v := 1) hx hb dX_choosePlaces_35 (by decide) ?_
      refine lv_iload_n hx hb dX_choosePlaces_36 rfl (lv_at hl 2 rfl) ?_
      refine lv_iadd hx hb dX_choosePlaces_37 ?_
      refine sy_cVv (wc := wX h rr cc cI N R C li us ob sl go gi fr la re) (wr := []) (w1 := wX h rr cc cI N R (sr_wr N C (a + 2) ((1 : Int32) + t)) li us ob sl go gi fr la re) (ci := 0) (q0 := 0) (As := [.int (a + 2), .int ((1 : Int32) + t)]) (rest := []) ⟨hx, hb, hml, hown, hbg⟩ (ct_X_write l D h rr cc cI N R C li us ob sl go gi fr la re H.size (a + 2) ((1 : Int32) + t) hN) (cwV 2 hbg (bg_V bw_84 bw_85 bw_2 bw_34 bw_86) rfl rfl rfl (by decide +kernel) ⟨Nat.le_of_ble_eq_true rfl, Nat.le_of_ble_eq_true rfl⟩) hK [0] rfl hP hD hS hA [0, 1, 2] [] rfl rfl rfl rfl (by decide) rfl rfl rfl hl.1 rfl (Nat.le_of_ble_eq_true rfl) dX_choosePlaces_38 ⟨Nat.le_of_ble_eq_true rfl, Nat.le_of_ble_eq_true rfl⟩ (fun H locs hP hD hS => ?_)
      have hP : va_P D vwC (wX h rr cc cI N R (sr_wr N C (a + 2) ((1 : Int32) + t)) li us ob sl go gi fr la re) H := hP
      have hD : va_D A (wX h rr cc cI N R (sr_wr N C (a + 2) ((1 : Int32) + t)) li us ob sl go gi fr la re) := hD
      refine lv_iload_n hx hb dX_choosePlaces_41 rfl (lv_at hl 2 rfl) ?_
      refine lv_iload hx hb dX_choosePlaces_42 (lv_at hl 0 rfl) ?_
      refine lv_iadd hx hb dX_choosePlaces_44 ?_
      refine lv_istore_n (lv' := [(1, .int (t + (sr_si N C a))), (4, .int (sr_si N C a)), (0, .ref h), (2, .int a), (3, .int (nI j))]) hx hb dX_choosePlaces_45 rfl hl (by decide) rfl (fun ls hl => ?_)
      refine lv_iload_n hx hb dX_choosePlaces_46 rfl (lv_at hl 3 rfl) ?_
      refine lv_iload hx hb dX_choosePlaces_47 (lv_at hl 1 rfl) ?_
      refine lv_iadd hx hb dX_choosePlaces_49 ?_
      refine lv_istore_n (lv' := [(2, .int (a + (sr_si N C a))), (1, .int (t + (sr_si N C a))), (4, .int (sr_si N C a)), (0, .ref h), (3, .int (nI j))]) hx hb dX_choosePlaces_50 rfl hl (by decide) rfl (fun ls hl => ?_)
      refine lv_iinc (v := nI (j + 1)) (lv' := [(3, .int (nI (j + 1))), (2, .int (a + (sr_si N C a))), (1, .int (t + (sr_si N C a))), (4, .int (sr_si N C a)), (0, .ref h)]) hx hb dX_choosePlaces_51 hl (k := 4) rfl (nI_1 j) (by decide) rfl (fun ls hl => ?_)
      refine lv_goto (tgt := 6) hx hb dX_choosePlaces_54 (by decide) ?_
      have es : sr_chp N (n + 1) C t a = sr_chp N n (sr_wr N C (a + 2) ((1 : Int32) + t)) (t + (sr_si N C a)) (a + (sr_si N C a)) := by simp only [sr_chp, c_28, ↓reduceIte]
      rw [es] at kk
      exact ih (j + 1) (sr_wr N C (a + 2) ((1 : Int32) + t)) (t + (sr_si N C a)) (a + (sr_si N C a)) _ _ _ (by omega) hP hD hS (lv_sub hl [4, 2, 1, 0] rfl) kk

set_option maxHeartbeats 4000000 in
set_option maxRecDepth 100000 in
theorem ct_X_choosePlaces (l : Launch) (D : va_G) (h rr cc : Nat) (cI : ClassId) (N : Nat) (R C : Nat → Int32) (li us ob sl go gi fr la re : Int32) (sz : Nat) (hN : N < 2 ^ 31) : sy_Mi l yX_choosePlaces (Cond.code yX_choosePlaces bX_choosePlaces 5 (some .int) :: sr_big) { frames := 2, cells := 0, slots := 0, locals := 43 } D vwC [(cI, .int)] [.ref h] (wX h rr cc cI N R C li us ob sl go gi fr la re) sz ((sr_chp N ob.toNatClampNeg C 0 1).2) (wX h rr cc cI N R ((sr_chp N ob.toNatClampNeg C 0 1).1) li us ob sl go gi fr la re) 0 0 := by
  refine Met.ofW (cc := bX_choosePlaces) (maxL := 5) (ret := (some .int)) (by decide) rfl ?_
  intro p e s m args below meth c s₁ B hml hv
  obtain ⟨rfl, hsz, hP, hK, hD0⟩ := hv
  have hx := B.exec
  have hb := B.bytes
  have hr := B.returns
  have hbg : ∀ w ∈ sr_big, w.before _ s = true := fun w h => atoms_spec (ws := Cond.code yX_choosePlaces bX_choosePlaces 5 (some .int) :: sr_big) B.pre w (List.mem_cons_of_mem _ h)
  have hown : s.vm.findClass RX = some m.cls := findClass_of_methodNamed B.named
  have hlocks := B.notSynchronized
  subst hsz
  have hD := hD0.self (sz := s.heap.size)
  generalize hAe : va_A (wX h rr cc cI N R C li us ob sl go gi fr la re) s.heap.size = A at *
  have hA : ∀ q : Nat, s.heap.size ≤ q → A q := fun q h => by rw [← hAe]; exact Or.inr h
  have hS : va_S A s.heap s.heap [] := va_S.rf
  have hl := lv_entry ([.ref h]) (n := 5) (Nat.le_of_ble_eq_true rfl)
  rw [lg_entry_eq]
  generalize (lg_sl ([.ref h]) ++ List.replicate (5 - (lg_sl ([.ref h])).length) Slot.unset).toArray = ls at hl ⊢
  have hl : lv_has ls 5 [(0, .ref h)] := hl
  refine lv_iconst (v := 0) hx hb dX_choosePlaces_0 (by decide) ?_
  refine lv_istore_n (lv' := [(1, .int 0), (0, .ref h)]) hx hb dX_choosePlaces_1 rfl hl (by decide) rfl (fun ls hl => ?_)
  refine lv_iconst (v := 1) hx hb dX_choosePlaces_2 (by decide) ?_
  refine lv_istore_n (lv' := [(2, .int 1), (1, .int 0), (0, .ref h)]) hx hb dX_choosePlaces_3 rfl hl (by decide) rfl (fun ls hl => ?_)
  refine lv_iconst (v := 0) hx hb dX_choosePlaces_4 (by decide) ?_
  refine lv_istore_n (lv' := [(3, .int 0), (2, .int 1), (1, .int 0), (0, .ref h)]) hx hb dX_choosePlaces_5 rfl hl (by decide) rfl (fun ls hl => ?_)
  refine lp_X_choosePlaces hx hb hml hown hbg hK hA hN ob.toNatClampNeg 0 C 0 1 _ _ _ (by simp) hP hD hS (lv_sub hl [3, 2, 1, 0] rfl) ?_
  intro a' i' H locs ls hP hD hS hl
  refine lv_iload_n hx hb dX_choosePlaces_57 rfl (lv_at hl 1 rfl) ?_
  refine W.widen (k := 0) (n := 0) (Nat.le_of_ble_eq_true rfl) (Nat.le_of_ble_eq_true rfl) ?_
  exact W.iret (v := (sr_chp N ob.toNatClampNeg C 0 1).2) hx hb hr (fun t ht hW => ⟨⟨(sr_chp N ob.toNatClampNeg C 0 1).2, (), rfl, rfl, by rw [ht]; exact hP, va_K.moved hW.alike hK, hD⟩, hS.F ht⟩) hS.2.2 dX_choosePlaces_58

set_option maxHeartbeats 4000000 in
set_option maxRecDepth 100000 in
theorem lp_X_redirectRoots {C : Nat → Int32} {fr la re : Int32} (hx : p.tables.exec = Jvm.exec) (hb : c.code = bX_redirectRoots) (hml : c.maxLocals = 2) (hown : s.vm.findClass RX = some m.cls) (hbg : ∀ w ∈ sr_big, w.before args s = true) (hK : va_K D vwC [(cI, .int)] s) (hA : ∀ q : Nat, s.heap.size ≤ q → A q) (hN : N < 2 ^ 31) :
    ∀ (n j : Nat) (R' : Nat → Int32) (H : Heap) (locs : List Loc) (ls : Array Slot), j + n = 16 → va_P D vwC (wX h rr cc cI N R' C li us ob sl go gi fr la re) H → va_D A (wX h rr cc cI N R' C li us ob sl go gi fr la re) → va_S A s.heap H locs → lv_has ls 2 [(0, .ref h), (1, .int (nI j))] →
      (∀ (i' : Int32) (H : Heap) (locs : List Loc) (ls : Array Slot), va_P D vwC (wX h rr cc cI N (sr_rr N C n j R') C li us ob sl go gi fr la re) H → va_D A (wX h rr cc cI N (sr_rr N C n j R') C li us ob sl go gi fr la re) → va_S A s.heap H locs → lv_has ls 2 [(0, .ref h), (1, .int i')] → W p l e { frames := 2, cells := 0, slots := 0, locals := 42 } s m args below meth c H locs 0 0 Q (F0 m 33 ls [])) →
      W p l e { frames := 2, cells := 0, slots := 0, locals := 42 } s m args below meth c H locs 0 0 Q (F0 m 2 ls []) := by
  intro n
  induction n with
  | zero =>
    intro j R' H locs ls hst hP hD hS hl kk
    refine lv_iload_n hx hb dX_redirectRoots_2 rfl (lv_at hl 1 rfl) ?_
    refine lv_aload_n hx hb dX_redirectRoots_3 rfl (lv_at hl 0 rfl) ?_
    refine va_get (D := D) (ci := 0) (v := .ref rr) (C := RX) (T := TX) (N := 11) hx hb hbg bg_X hown hK hP 0 rfl rfl 0 (by decide) (hbg _ bw_51) (fun _ h9 => h9) rfl dX_redirectRoots_4 ?_
    refine va_alen hx hb hK hP 1 0 rfl rfl (v := nI 16) rfl dX_redirectRoots_7 ?_
    refine lv_icmp_ge (tgt := 33) hx hb dX_redirectRoots_8 (by decide) (fun _ => ?_) (fun z => absurd (nI_le (by omega) (by omega)) z)
    exact kk (nI j) _ _ _ hP hD hS (lv_sub hl [0, 1] rfl)
  | succ n ih =>
    intro j R' H locs ls hst hP hD hS hl kk
    refine lv_iload_n hx hb dX_redirectRoots_2 rfl (lv_at hl 1 rfl) ?_
    refine lv_aload_n hx hb dX_redirectRoots_3 rfl (lv_at hl 0 rfl) ?_
    refine va_get (D := D) (ci := 0) (v := .ref rr) (C := RX) (T := TX) (N := 11) hx hb hbg bg_X hown hK hP 0 rfl rfl 0 (by decide) (hbg _ bw_51) (fun _ h9 => h9) rfl dX_redirectRoots_4 ?_
    refine va_alen hx hb hK hP 1 0 rfl rfl (v := nI 16) rfl dX_redirectRoots_7 ?_
    refine lv_icmp_ge (tgt := 33) hx hb dX_redirectRoots_8 (by decide) (fun z => absurd z (nI_ge (by omega) (by omega))) (fun _ => ?_)
    refine lv_aload_n hx hb dX_redirectRoots_11 rfl (lv_at hl 0 rfl) ?_
    refine va_get (D := D) (ci := 0) (v := .ref rr) (C := RX) (T := TX) (N := 11) hx hb hbg bg_X hown hK hP 0 rfl rfl 0 (by decide) (hbg _ bw_51) (fun _ h9 => h9) rfl dX_redirectRoots_12 ?_
    refine lv_iload_n hx hb dX_redirectRoots_15 rfl (lv_at hl 1 rfl) ?_
    refine lv_aload_n hx hb dX_redirectRoots_16 rfl (lv_at hl 0 rfl) ?_
    refine lv_aload_n hx hb dX_redirectRoots_17 rfl (lv_at hl 0 rfl) ?_
    refine va_get (D := D) (ci := 0) (v := .ref rr) (C := RX) (T := TX) (N := 11) hx hb hbg bg_X hown hK hP 0 rfl rfl 0 (by decide) (hbg _ bw_51) (fun _ h9 => h9) rfl dX_redirectRoots_18 ?_
    refine lv_iload_n hx hb dX_redirectRoots_21 rfl (lv_at hl 1 rfl) ?_
    refine sy_iald (j := j) hx hb hK hP 1 0 rfl rfl (by omega) (by omega) dX_redirectRoots_22 ?_
    refine sy_cVi (wc := wX h rr cc cI N R' C li us ob sl go gi fr la re) (wr := []) (w1 := wX h rr cc cI N R' C li us ob sl go gi fr la re) (ci := 0) (q0 := 0) (As := [.int (R' j)]) (rest := [.int (nI j), .ref rr]) ⟨hx, hb, hml, hown, hbg⟩ (ct_X_placeOf l D h rr cc cI N R' C li us ob sl go gi fr la re H.size (R' j) hN) (cwV 1 hbg (bg_V bw_108 bw_109 bw_10 bw_34 bw_110) rfl rfl rfl (by decide +kernel) ⟨Nat.le_of_ble_eq_true rfl, Nat.le_of_ble_eq_true rfl⟩) hK [0] rfl hP hD hS hA [0, 1, 2] [] rfl rfl rfl rfl (by decide) rfl rfl rfl hl.1 rfl (Nat.le_of_ble_eq_true rfl) dX_redirectRoots_23 ⟨Nat.le_of_ble_eq_true rfl, Nat.le_of_ble_eq_true rfl⟩ (fun H locs hP hD hS => ?_)
    have hP : va_P D vwC (wX h rr cc cI N R' C li us ob sl go gi fr la re) H := hP
    have hD : va_D A (wX h rr cc cI N R' C li us ob sl go gi fr la re) := hD
    refine sy_iast (j := j) hx hb hK hP hD hS 1 0 rfl rfl (by omega) (by omega) dX_redirectRoots_26 (fun H locs hP hD hS => ?_)
    have hP : va_P D vwC (wX h rr cc cI N (upd R' j (sr_po N C (R' j))) C li us ob sl go gi fr la re) H := hP
    have hD : va_D A (wX h rr cc cI N (upd R' j (sr_po N C (R' j))) C li us ob sl go gi fr la re) := hD
    refine lv_iinc (v := nI (j + 1)) (lv' := [(1, .int (nI (j + 1))), (0, .ref h)]) hx hb dX_redirectRoots_27 hl (k := 1) rfl (nI_1 j) (by decide) rfl (fun ls hl => ?_)
    refine lv_goto (tgt := 2) hx hb dX_redirectRoots_30 (by decide) ?_
    exact ih (j + 1) (upd R' j (sr_po N C (R' j))) _ _ _ (by omega) hP hD hS (lv_sub hl [1, 0] rfl) kk

set_option maxHeartbeats 4000000 in
set_option maxRecDepth 100000 in
theorem ct_X_redirectRoots (l : Launch) (D : va_G) (h rr cc : Nat) (cI : ClassId) (N : Nat) (R C : Nat → Int32) (li us ob sl go gi fr la re : Int32) (sz : Nat) (hN : N < 2 ^ 31) : sy_Mv l yX_redirectRoots (Cond.code yX_redirectRoots bX_redirectRoots 2 none :: sr_big) { frames := 2, cells := 0, slots := 0, locals := 42 } D vwC [(cI, .int)] [.ref h] (wX h rr cc cI N R C li us ob sl go gi fr la re) sz (wX h rr cc cI N (sr_rr N C 16 0 R) C li us ob sl go gi fr la re) 0 0 := by
  refine Met.ofW (cc := bX_redirectRoots) (maxL := 2) (ret := none) (by decide) rfl ?_
  intro p e s m args below meth c s₁ B hml hv
  obtain ⟨rfl, hsz, hP, hK, hD0⟩ := hv
  have hx := B.exec
  have hb := B.bytes
  have hr := B.returns
  have hbg : ∀ w ∈ sr_big, w.before _ s = true := fun w h => atoms_spec (ws := Cond.code yX_redirectRoots bX_redirectRoots 2 none :: sr_big) B.pre w (List.mem_cons_of_mem _ h)
  have hown : s.vm.findClass RX = some m.cls := findClass_of_methodNamed B.named
  have hlocks := B.notSynchronized
  subst hsz
  have hD := hD0.self (sz := s.heap.size)
  generalize hAe : va_A (wX h rr cc cI N R C li us ob sl go gi fr la re) s.heap.size = A at *
  have hA : ∀ q : Nat, s.heap.size ≤ q → A q := fun q h => by rw [← hAe]; exact Or.inr h
  have hS : va_S A s.heap s.heap [] := va_S.rf
  have hl := lv_entry ([.ref h]) (n := 2) (Nat.le_of_ble_eq_true rfl)
  rw [lg_entry_eq]
  generalize (lg_sl ([.ref h]) ++ List.replicate (2 - (lg_sl ([.ref h])).length) Slot.unset).toArray = ls at hl ⊢
  have hl : lv_has ls 2 [(0, .ref h)] := hl
  refine lv_iconst (v := 0) hx hb dX_redirectRoots_0 (by decide) ?_
  refine lv_istore_n (lv' := [(1, .int 0), (0, .ref h)]) hx hb dX_redirectRoots_1 rfl hl (by decide) rfl (fun ls hl => ?_)
  refine lp_X_redirectRoots hx hb hml hown hbg hK hA hN 16 0 R _ _ _ (by simp) hP hD hS (lv_sub hl [1, 0] rfl) ?_
  intro i' H locs ls hP hD hS hl
  refine W.widen (k := 0) (n := 0) (Nat.le_of_ble_eq_true rfl) (Nat.le_of_ble_eq_true rfl) ?_
  exact W.vret hx hb hr (fun t ht hW => ⟨⟨(), rfl, trivial, by rw [ht]; exact hP, va_K.moved hW.alike hK, hD⟩, hS.F ht⟩) hS.2.2 dX_redirectRoots_33

set_option maxHeartbeats 4000000 in
set_option maxRecDepth 100000 in
theorem lp_X_redirectFieldsOf {a k : Int32} {fr la re : Int32} (hx : p.tables.exec = Jvm.exec) (hb : c.code = bX_redirectFieldsOf) (hml : c.maxLocals = 5) (hown : s.vm.findClass RX = some m.cls) (hbg : ∀ w ∈ sr_big, w.before args s = true) (hK : va_K D vwC [(cI, .int)] s) (hA : ∀ q : Nat, s.heap.size ≤ q → A q) (hN : N < 2 ^ 31) :
    ∀ (n j : Nat) (C : Nat → Int32) (H : Heap) (locs : List Loc) (ls : Array Slot), j + n = k.toNatClampNeg → va_P D vwC (wX h rr cc cI N R C li us ob sl go gi fr la re) H → va_D A (wX h rr cc cI N R C li us ob sl go gi fr la re) → va_S A s.heap H locs → lv_has ls 5 [(0, .ref h), (1, .int a), (2, .int k), (3, .int (nI j))] →
      (∀ (i' : Int32) (H : Heap) (locs : List Loc) (ls : Array Slot), va_P D vwC (wX h rr cc cI N R (sr_rdf N a n j C) li us ob sl go gi fr la re) H → va_D A (wX h rr cc cI N R (sr_rdf N a n j C) li us ob sl go gi fr la re) → va_S A s.heap H locs → lv_has ls 5 [(0, .ref h), (1, .int a), (2, .int k), (3, .int i')] → W p l e { frames := 2, cells := 0, slots := 0, locals := 42 } s m args below meth c H locs 0 0 Q (F0 m 42 ls [])) →
      W p l e { frames := 2, cells := 0, slots := 0, locals := 42 } s m args below meth c H locs 0 0 Q (F0 m 8 ls []) := by
  intro n
  induction n with
  | zero =>
    intro j C H locs ls hst hP hD hS hl kk
    refine lv_iload_n hx hb dX_redirectFieldsOf_8 rfl (lv_at hl 3 rfl) ?_
    refine lv_iload_n hx hb dX_redirectFieldsOf_9 rfl (lv_at hl 2 rfl) ?_
    refine lv_icmp_ge (tgt := 42) hx hb dX_redirectFieldsOf_10 (by decide) (fun _ => ?_) (fun z => absurd ((sr_cle (by have := sr_clt k; omega)).mpr (by omega)) z)
    exact kk (nI j) _ _ _ hP hD hS (lv_sub hl [0, 1, 2, 3] rfl)
  | succ n ih =>
    intro j C H locs ls hst hP hD hS hl kk
    refine lv_iload_n hx hb dX_redirectFieldsOf_8 rfl (lv_at hl 3 rfl) ?_
    refine lv_iload_n hx hb dX_redirectFieldsOf_9 rfl (lv_at hl 2 rfl) ?_
    refine lv_icmp_ge (tgt := 42) hx hb dX_redirectFieldsOf_10 (by decide) (fun z => absurd z (fun z => absurd ((sr_cle (by have := sr_clt k; omega)).mp z) (by omega))) (fun _ => ?_)
    refine lv_iload_n hx hb dX_redirectFieldsOf_13 rfl (lv_at hl 1 rfl) ?_
    refine lv_iconst (v := 3) hx hb dX_redirectFieldsOf_14 (by decide) ?_
    refine lv_iadd hx hb dX_redirectFieldsOf_15 ?_
    refine lv_iload_n hx hb dX_redirectFieldsOf_16 rfl (lv_at hl 3 rfl) ?_
    refine lv_iadd hx hb dX_redirectFieldsOf_17 ?_
    refine lv_istore (lv' := [(4, .int ((a + 3) + (nI j))), (0, .ref h), (1, .int a), (2, .int k), (3, .int (nI j))]) hx hb dX_redirectFieldsOf_18 hl (by decide) rfl (fun ls hl => ?_)
    refine lv_aload_n hx hb dX_redirectFieldsOf_20 rfl (lv_at hl 1 rfl) ?_
    refine lv_iload hx hb dX_redirectFieldsOf_21 (lv_at hl 0 rfl) ?_
    refine lv_aload_n hx hb dX_redirectFieldsOf_23 rfl (lv_at hl 1 rfl) ?_
    refine lv_aload_n hx hb dX_redirectFieldsOf_24 rfl (lv_at hl 1 rfl) ?_
    refine lv_iload hx hb dX_redirectFieldsOf_25 (lv_at hl 0 rfl) ?_
    refine sy_cVi (wc := wX h rr cc cI N R C li us ob sl go gi fr la re) (wr := []) (w1 := wX h rr cc cI N R C li us ob sl go gi fr la re) (ci := 0) (q0 := 0) (As := [.int ((a + 3) + (nI j))]) (rest := [.ref h, .int ((a + 3) + (nI j)), .ref h]) ⟨hx, hb, hml, hown, hbg⟩ (ct_X_read l D h rr cc cI N R C li us ob sl go gi fr la re H.size ((a + 3) + (nI j)) hN) (cwV 1 hbg (bg_V bw_90 bw_91 bw_4 bw_34 bw_92) rfl rfl rfl (by decide +kernel) ⟨Nat.le_of_ble_eq_true rfl, Nat.le_of_ble_eq_true rfl⟩) hK [0] rfl hP hD hS hA [0, 1, 2] [] rfl rfl rfl rfl (by decide) rfl rfl rfl hl.1 rfl (Nat.le_of_ble_eq_true rfl) dX_redirectFieldsOf_27 ⟨Nat.le_of_ble_eq_true rfl, Nat.le_of_ble_eq_true rfl⟩ (fun H locs hP hD hS => ?_)
    have hP : va_P D vwC (wX h rr cc cI N R C li us ob sl go gi fr la re) H := hP
    have hD : va_D A (wX h rr cc cI N R C li us ob sl go gi fr la re) := hD
    refine sy_cVi (wc := wX h rr cc cI N R C li us ob sl go gi fr la re) (wr := []) (w1 := wX h rr cc cI N R C li us ob sl go gi fr la re) (ci := 0) (q0 := 0) (As := [.int (sr_rd N C ((a + 3) + (nI j)))]) (rest := [.int ((a + 3) + (nI j)), .ref h]) ⟨hx, hb, hml, hown, hbg⟩ (ct_X_placeOf l D h rr cc cI N R C li us ob sl go gi fr la re H.size (sr_rd N C ((a + 3) + (nI j))) hN) (cwV 1 hbg (bg_V bw_108 bw_109 bw_10 bw_34 bw_110) rfl rfl rfl (by decide +kernel) ⟨Nat.le_of_ble_eq_true rfl, Nat.le_of_ble_eq_true rfl⟩) hK [0] rfl hP hD hS hA [0, 1, 2] [] rfl rfl rfl rfl (by decide) rfl rfl rfl hl.1 rfl (Nat.le_of_ble_eq_true rfl) dX_redirectFieldsOf_30 ⟨Nat.le_of_ble_eq_true rfl, Nat.le_of_ble_eq_true rfl⟩ (fun H locs hP hD hS => ?_)
    have hP : va_P D vwC (wX h rr cc cI N R C li us ob sl go gi fr la re) H := hP
    have hD : va_D A (wX h rr cc cI N R C li us ob sl go gi fr la re) := hD
    refine sy_cVv (wc := wX h rr cc cI N R C li us ob sl go gi fr la re) (wr := []) (w1 := wX h rr cc cI N R (sr_wr N C ((a + 3) + (nI j)) (sr_po N C (sr_rd N C ((a + 3) + (nI j))))) li us ob sl go gi fr la re) (ci := 0) (q0 := 0) (As := [.int ((a + 3) + (nI j)), .int (sr_po N C (sr_rd N C ((a + 3) + (nI j))))]) (rest := []) ⟨hx, hb, hml, hown, hbg⟩ (ct_X_write l D h rr cc cI N R C li us ob sl go gi fr la re H.size ((a + 3) + (nI j)) (sr_po N C (sr_rd N C ((a + 3) + (nI j)))) hN) (cwV 2 hbg (bg_V bw_84 bw_85 bw_2 bw_34 bw_86) rfl rfl rfl (by decide +kernel) ⟨Nat.le_of_ble_eq_true rfl, Nat.le_of_ble_eq_true rfl⟩) hK [0] rfl hP hD hS hA [0, 1, 2] [] rfl rfl rfl rfl (by decide) rfl rfl rfl hl.1 rfl (Nat.le_of_ble_eq_true rfl) dX_redirectFieldsOf_33 ⟨Nat.le_of_ble_eq_true rfl, Nat.le_of_ble_eq_true rfl⟩ (fun H locs hP hD hS => ?_)
    have hP : va_P D vwC (wX h rr cc cI N R (sr_wr N C ((a + 3) + (nI j)) (sr_po N C (sr_rd N C ((a + 3) + (nI j))))) li us ob sl go gi fr la re) H := hP
    have hD : va_D A (wX h rr cc cI N R (sr_wr N C ((a + 3) + (nI j)) (sr_po N C (sr_rd N C ((a + 3) + (nI j))))) li us ob sl go gi fr la re) := hD
    refine lv_iinc (v := nI (j + 1)) (lv' := [(3, .int (nI (j + 1))), (4, .int ((a + 3) + (nI j))), (0, .ref h), (1, .int a), (2, .int k)]) hx hb dX_redirectFieldsOf_36 hl (k := 4) rfl (nI_1 j) (by decide) rfl (fun ls hl => ?_)
    refine lv_goto (tgt := 8) hx hb dX_redirectFieldsOf_39 (by decide) ?_
    exact ih (j + 1) (sr_wr N C ((a + 3) + (nI j)) (sr_po N C (sr_rd N C ((a + 3) + (nI j))))) _ _ _ (by omega) hP hD hS (lv_sub hl [2, 3, 4, 0] rfl) kk

set_option maxHeartbeats 4000000 in
set_option maxRecDepth 100000 in
theorem ct_X_redirectFieldsOf (l : Launch) (D : va_G) (h rr cc : Nat) (cI : ClassId) (N : Nat) (R C : Nat → Int32) (li us ob sl go gi fr la re : Int32) (sz : Nat) (a : Int32) (hN : N < 2 ^ 31) : sy_Mv l yX_redirectFieldsOf (Cond.code yX_redirectFieldsOf bX_redirectFieldsOf 5 none :: sr_big) { frames := 2, cells := 0, slots := 0, locals := 42 } D vwC [(cI, .int)] [.ref h, .int a] (wX h rr cc cI N R C li us ob sl go gi fr la re) sz (wX h rr cc cI N R (sr_rdf N a (sr_fi N C a).toNatClampNeg 0 C) li us ob sl go gi fr la re) 0 0 := by
  refine Met.ofW (cc := bX_redirectFieldsOf) (maxL := 5) (ret := none) (by decide) rfl ?_
  intro p e s m args below meth c s₁ B hml hv
  obtain ⟨rfl, hsz, hP, hK, hD0⟩ := hv
  have hx := B.exec
  have hb := B.bytes
  have hr := B.returns
  have hbg : ∀ w ∈ sr_big, w.before _ s = true := fun w h => atoms_spec (ws := Cond.code yX_redirectFieldsOf bX_redirectFieldsOf 5 none :: sr_big) B.pre w (List.mem_cons_of_mem _ h)
  have hown : s.vm.findClass RX = some m.cls := findClass_of_methodNamed B.named
  have hlocks := B.notSynchronized
  subst hsz
  have hD := hD0.self (sz := s.heap.size)
  generalize hAe : va_A (wX h rr cc cI N R C li us ob sl go gi fr la re) s.heap.size = A at *
  have hA : ∀ q : Nat, s.heap.size ≤ q → A q := fun q h => by rw [← hAe]; exact Or.inr h
  have hS : va_S A s.heap s.heap [] := va_S.rf
  have hl := lv_entry ([.ref h, .int a]) (n := 5) (Nat.le_of_ble_eq_true rfl)
  rw [lg_entry_eq]
  generalize (lg_sl ([.ref h, .int a]) ++ List.replicate (5 - (lg_sl ([.ref h, .int a])).length) Slot.unset).toArray = ls at hl ⊢
  have hl : lv_has ls 5 [(0, .ref h), (1, .int a)] := hl
  refine lv_aload_n hx hb dX_redirectFieldsOf_0 rfl (lv_at hl 0 rfl) ?_
  refine lv_iload_n hx hb dX_redirectFieldsOf_1 rfl (lv_at hl 1 rfl) ?_
  refine sy_cVi (wc := wX h rr cc cI N R C li us ob sl go gi fr la re) (wr := []) (w1 := wX h rr cc cI N R C li us ob sl go gi fr la re) (ci := 0) (q0 := 0) (As := [.int a]) (rest := []) ⟨hx, hb, hml, hown, hbg⟩ (ct_X_fieldsOf l D h rr cc cI N R C li us ob sl go gi fr la re s.heap.size a hN) (cwV 1 hbg (bg_V bw_99 bw_100 bw_7 bw_34 bw_101) rfl rfl rfl (by decide +kernel) ⟨Nat.le_of_ble_eq_true rfl, Nat.le_of_ble_eq_true rfl⟩) hK [0] rfl hP hD hS hA [0, 1, 2] [] rfl rfl rfl rfl (by decide) rfl rfl rfl hl.1 rfl (Nat.le_of_ble_eq_true rfl) dX_redirectFieldsOf_2 ⟨Nat.le_of_ble_eq_true rfl, Nat.le_of_ble_eq_true rfl⟩ (fun H locs hP hD hS => ?_)
  have hP : va_P D vwC (wX h rr cc cI N R C li us ob sl go gi fr la re) H := hP
  have hD : va_D A (wX h rr cc cI N R C li us ob sl go gi fr la re) := hD
  refine lv_istore_n (lv' := [(2, .int (sr_fi N C a)), (0, .ref h), (1, .int a)]) hx hb dX_redirectFieldsOf_5 rfl hl (by decide) rfl (fun ls hl => ?_)
  refine lv_iconst (v := 0) hx hb dX_redirectFieldsOf_6 (by decide) ?_
  refine lv_istore_n (lv' := [(3, .int 0), (2, .int (sr_fi N C a)), (0, .ref h), (1, .int a)]) hx hb dX_redirectFieldsOf_7 rfl hl (by decide) rfl (fun ls hl => ?_)
  refine lp_X_redirectFieldsOf hx hb hml hown hbg hK hA hN (sr_fi N C a).toNatClampNeg 0 C _ _ _ (by simp) hP hD hS (lv_sub hl [2, 3, 1, 0] rfl) ?_
  intro i' H locs ls hP hD hS hl
  refine W.widen (k := 0) (n := 0) (Nat.le_of_ble_eq_true rfl) (Nat.le_of_ble_eq_true rfl) ?_
  exact W.vret hx hb hr (fun t ht hW => ⟨⟨(), rfl, trivial, by rw [ht]; exact hP, va_K.moved hW.alike hK, hD⟩, hS.F ht⟩) hS.2.2 dX_redirectFieldsOf_42

set_option maxHeartbeats 4000000 in
set_option maxRecDepth 100000 in
theorem lp_X_redirectFields {fr la re : Int32} (hx : p.tables.exec = Jvm.exec) (hb : c.code = bX_redirectFields) (hml : c.maxLocals = 3) (hown : s.vm.findClass RX = some m.cls) (hbg : ∀ w ∈ sr_big, w.before args s = true) (hK : va_K D vwC [(cI, .int)] s) (hA : ∀ q : Nat, s.heap.size ≤ q → A q) (hN : N < 2 ^ 31) :
    ∀ (n j : Nat) (C : Nat → Int32) (a : Int32) (H : Heap) (locs : List Loc) (ls : Array Slot), j + n = ob.toNatClampNeg → va_P D vwC (wX h rr cc cI N R C li us ob sl go gi fr la re) H → va_D A (wX h rr cc cI N R C li us ob sl go gi fr la re) → va_S A s.heap H locs → lv_has ls 3 [(0, .ref h), (1, .int a), (2, .int (nI j))] →
      (∀ (a' i' : Int32) (H : Heap) (locs : List Loc) (ls : Array Slot), va_P D vwC (wX h rr cc cI N R (sr_rfs N n C a) li us ob sl go gi fr la re) H → va_D A (wX h rr cc cI N R (sr_rfs N n C a) li us ob sl go gi fr la re) → va_S A s.heap H locs → lv_has ls 3 [(0, .ref h), (1, .int a'), (2, .int i')] → W p l e { frames := 3, cells := 0, slots := 0, locals := 66 } s m args below meth c H locs 0 0 Q (F0 m 41 ls [])) →
      W p l e { frames := 3, cells := 0, slots := 0, locals := 66 } s m args below meth c H locs 0 0 Q (F0 m 4 ls []) := by
  intro n
  induction n with
  | zero =>
    intro j C a H locs ls hst hP hD hS hl kk
    refine lv_iload_n hx hb dX_redirectFields_4 rfl (lv_at hl 2 rfl) ?_
    refine lv_aload_n hx hb dX_redirectFields_5 rfl (lv_at hl 0 rfl) ?_
    refine va_get (D := D) (ci := 0) (v := .int ob) (C := RX) (T := TX) (N := 11) hx hb hbg bg_X hown hK hP 0 rfl rfl 4 (by decide) (hbg _ bw_55) (fun _ h9 => h9) rfl dX_redirectFields_6 ?_
    refine lv_icmp_ge (tgt := 41) hx hb dX_redirectFields_9 (by decide) (fun _ => ?_) (fun z => absurd ((sr_cle (by have := sr_clt ob; omega)).mpr (by omega)) z)
    exact kk a (nI j) _ _ _ hP hD hS (lv_sub hl [0, 1, 2] rfl)
  | succ n ih =>
    intro j C a H locs ls hst hP hD hS hl kk
    refine lv_iload_n hx hb dX_redirectFields_4 rfl (lv_at hl 2 rfl) ?_
    refine lv_aload_n hx hb dX_redirectFields_5 rfl (lv_at hl 0 rfl) ?_
    refine va_get (D := D) (ci := 0) (v := .int ob) (C := RX) (T := TX) (N := 11) hx hb hbg bg_X hown hK hP 0 rfl rfl 4 (by decide) (hbg _ bw_55) (fun _ h9 => h9) rfl dX_redirectFields_6 ?_
    refine lv_icmp_ge (tgt := 41) hx hb dX_redirectFields_9 (by decide) (fun z => absurd z (fun z => absurd ((sr_cle (by have := sr_clt ob; omega)).mp z) (by omega))) (fun _ => ?_)
    refine lv_aload_n hx hb dX_redirectFields_12 rfl (lv_at hl 0 rfl) ?_
    refine lv_iload_n hx hb dX_redirectFields_13 rfl (lv_at hl 1 rfl) ?_
    refine lv_iconst (v := 2) hx hb dX_redirectFields_14 (by decide) ?_
    refine lv_iadd hx hb dX_redirectFields_15 ?_
    refine sy_cVi (wc := wX h rr cc cI N R C li us ob sl go gi fr la re) (wr := []) (w1 := wX h rr cc cI N R C li us ob sl go gi fr la re) (ci := 0) (q0 := 0) (As := [.int (a + 2)]) (rest := []) ⟨hx, hb, hml, hown, hbg⟩ (ct_X_read l D h rr cc cI N R C li us ob sl go gi fr la re H.size (a + 2) hN) (cwV 1 hbg (bg_V bw_90 bw_91 bw_4 bw_34 bw_92) rfl rfl rfl (by decide +kernel) ⟨Nat.le_of_ble_eq_true rfl, Nat.le_of_ble_eq_true rfl⟩) hK [0] rfl hP hD hS hA [0, 1, 2] [] rfl rfl rfl rfl (by decide) rfl rfl rfl hl.1 rfl (Nat.le_of_ble_eq_true rfl) dX_redirectFields_16 ⟨Nat.le_of_ble_eq_true rfl, Nat.le_of_ble_eq_true rfl⟩ (fun H locs hP hD hS => ?_)
    have hP : va_P D vwC (wX h rr cc cI N R C li us ob sl go gi fr la re) H := hP
    have hD : va_D A (wX h rr cc cI N R C li us ob sl go gi fr la re) := hD
    refine lv_if_eq (tgt := 27) hx hb dX_redirectFields_19 (by decide) (fun c_19 => ?_) (fun c_19 => ?_)
    · refine lv_iload_n hx hb dX_redirectFields_27 rfl (lv_at hl 1 rfl) ?_
      refine lv_aload_n hx hb dX_redirectFields_28 rfl (lv_at hl 0 rfl) ?_
      refine lv_iload_n hx hb dX_redirectFields_29 rfl (lv_at hl 1 rfl) ?_
      refine sy_cVi (wc := wX h rr cc cI N R C li us ob sl go gi fr la re) (wr := []) (w1 := wX h rr cc cI N R C li us ob sl go gi fr la re) (ci := 0) (q0 := 0) (As := [.int a]) (rest := [.int a]) ⟨hx, hb, hml, hown, hbg⟩ (ct_X_sizeOf l D h rr cc cI N R C li us ob sl go gi fr la re H.size a hN) (cwV 1 hbg (bg_V bw_87 bw_88 bw_3 bw_34 bw_89) rfl rfl rfl (by decide +kernel) ⟨Nat.le_of_ble_eq_true rfl, Nat.le_of_ble_eq_true rfl⟩) hK [0] rfl hP hD hS hA [0, 1, 2] [] rfl rfl rfl rfl (by decide) rfl rfl rfl hl.1 rfl (Nat.le_of_ble_eq_true rfl) dX_redirectFields_30 ⟨Nat.le_of_ble_eq_true rfl, Nat.le_of_ble_eq_true rfl⟩ (fun H locs hP hD hS => ?_)
      have hP : va_P D vwC (wX h rr cc cI N R C li us ob sl go gi fr la re) H := hP
      have hD : va_D A (wX h rr cc cI N R C li us ob sl go gi fr la re) := hD
      refine lv_iadd hx hb dX_redirectFields_33 ?_
      refine lv_istore_n (lv' := [(1, .int (a + (sr_si N C a))), (0, .ref h), (2, .int (nI j))]) hx hb dX_redirectFields_34 rfl hl (by decide) rfl (fun ls hl => ?_)
      refine lv_iinc (v := nI (j + 1)) (lv' := [(2, .int (nI (j + 1))), (1, .int (a + (sr_si N C a))), (0, .ref h)]) hx hb dX_redirectFields_35 hl (k := 2) rfl (nI_1 j) (by decide) rfl (fun ls hl => ?_)
      refine lv_goto (tgt := 4) hx hb dX_redirectFields_38 (by decide) ?_
      have es : sr_rfs N (n + 1) C a = sr_rfs N n C (a + (sr_si N C a)) := by simp only [sr_rfs, c_19, ↓reduceIte]
      rw [es] at kk
      exact ih (j + 1) C (a + (sr_si N C a)) _ _ _ (by omega) hP hD hS (lv_sub hl [2, 1, 0] rfl) kk
    · refine lv_aload_n hx hb dX_redirectFields_22 rfl (lv_at hl 0 rfl) ?_
      refine lv_iload_n hx hb dX_redirectFields_23 rfl (lv_at hl 1 rfl) ?_
      refine sy_cVv (wc := wX h rr cc cI N R C li us ob sl go gi fr la re) (wr := []) (w1 := wX h rr cc cI N R (sr_rdf N a (sr_fi N C a).toNatClampNeg 0 C) li us ob sl go gi fr la re) (ci := 0) (q0 := 0) (As := [.int a]) (rest := []) ⟨hx, hb, hml, hown, hbg⟩ (ct_X_redirectFieldsOf l D h rr cc cI N R C li us ob sl go gi fr la re H.size a hN) (cwV 1 hbg (bg_V bw_114 bw_115 bw_12 bw_34 bw_116) rfl rfl rfl (by decide +kernel) ⟨Nat.le_of_ble_eq_true rfl, Nat.le_of_ble_eq_true rfl⟩) hK [0] rfl hP hD hS hA [0, 1, 2] [] rfl rfl rfl rfl (by decide) rfl rfl rfl hl.1 rfl (Nat.le_of_ble_eq_true rfl) dX_redirectFields_24 ⟨Nat.le_of_ble_eq_true rfl, Nat.le_of_ble_eq_true rfl⟩ (fun H locs hP hD hS => ?_)
      have hP : va_P D vwC (wX h rr cc cI N R (sr_rdf N a (sr_fi N C a).toNatClampNeg 0 C) li us ob sl go gi fr la re) H := hP
      have hD : va_D A (wX h rr cc cI N R (sr_rdf N a (sr_fi N C a).toNatClampNeg 0 C) li us ob sl go gi fr la re) := hD
      refine lv_iload_n hx hb dX_redirectFields_27 rfl (lv_at hl 1 rfl) ?_
      refine lv_aload_n hx hb dX_redirectFields_28 rfl (lv_at hl 0 rfl) ?_
      refine lv_iload_n hx hb dX_redirectFields_29 rfl (lv_at hl 1 rfl) ?_
      refine sy_cVi (wc := wX h rr cc cI N R (sr_rdf N a (sr_fi N C a).toNatClampNeg 0 C) li us ob sl go gi fr la re) (wr := []) (w1 := wX h rr cc cI N R (sr_rdf N a (sr_fi N C a).toNatClampNeg 0 C) li us ob sl go gi fr la re) (ci := 0) (q0 := 0) (As := [.int a]) (rest := [.int a]) ⟨hx, hb, hml, hown, hbg⟩ (ct_X_sizeOf l D h rr cc cI N R (sr_rdf N a (sr_fi N C a).toNatClampNeg 0 C) li us ob sl go gi fr la re H.size a hN) (cwV 1 hbg (bg_V bw_87 bw_88 bw_3 bw_34 bw_89) rfl rfl rfl (by decide +kernel) ⟨Nat.le_of_ble_eq_true rfl, Nat.le_of_ble_eq_true rfl⟩) hK [0] rfl hP hD hS hA [0, 1, 2] [] rfl rfl rfl rfl (by decide) rfl rfl rfl hl.1 rfl (Nat.le_of_ble_eq_true rfl) dX_redirectFields_30 ⟨Nat.le_of_ble_eq_true rfl, Nat.le_of_ble_eq_true rfl⟩ (fun H locs hP hD hS => ?_)
      have hP : va_P D vwC (wX h rr cc cI N R (sr_rdf N a (sr_fi N C a).toNatClampNeg 0 C) li us ob sl go gi fr la re) H := hP
      have hD : va_D A (wX h rr cc cI N R (sr_rdf N a (sr_fi N C a).toNatClampNeg 0 C) li us ob sl go gi fr la re) := hD
      refine lv_iadd hx hb dX_redirectFields_33 ?_
      refine lv_istore_n (lv' := [(1, .int (a + (sr_si N (sr_rdf N a (sr_fi N C a).toNatClampNeg 0 C) a))), (0, .ref h), (2, .int (nI j))]) hx hb dX_redirectFields_34 rfl hl (by decide) rfl (fun ls hl => ?_)
      refine lv_iinc (v := nI (j + 1)) (lv' := [(2, .int (nI (j + 1))), (1, .int (a + (sr_si N (sr_rdf N a (sr_fi N C a).toNatClampNeg 0 C) a))), (0, .ref h)]) hx hb dX_redirectFields_35 hl (k := 2) rfl (nI_1 j) (by decide) rfl (fun ls hl => ?_)
      refine lv_goto (tgt := 4) hx hb dX_redirectFields_38 (by decide) ?_
      have es : sr_rfs N (n + 1) C a = sr_rfs N n (sr_rdf N a (sr_fi N C a).toNatClampNeg 0 C) (a + (sr_si N (sr_rdf N a (sr_fi N C a).toNatClampNeg 0 C) a)) := by simp only [sr_rfs, c_19, ↓reduceIte]
      rw [es] at kk
      exact ih (j + 1) (sr_rdf N a (sr_fi N C a).toNatClampNeg 0 C) (a + (sr_si N (sr_rdf N a (sr_fi N C a).toNatClampNeg 0 C) a)) _ _ _ (by omega) hP hD hS (lv_sub hl [2, 1, 0] rfl) kk

set_option maxHeartbeats 4000000 in
set_option maxRecDepth 100000 in
theorem ct_X_redirectFields (l : Launch) (D : va_G) (h rr cc : Nat) (cI : ClassId) (N : Nat) (R C : Nat → Int32) (li us ob sl go gi fr la re : Int32) (sz : Nat) (hN : N < 2 ^ 31) : sy_Mv l yX_redirectFields (Cond.code yX_redirectFields bX_redirectFields 3 none :: sr_big) { frames := 3, cells := 0, slots := 0, locals := 66 } D vwC [(cI, .int)] [.ref h] (wX h rr cc cI N R C li us ob sl go gi fr la re) sz (wX h rr cc cI N R (sr_rfs N ob.toNatClampNeg C 1) li us ob sl go gi fr la re) 0 0 := by
  refine Met.ofW (cc := bX_redirectFields) (maxL := 3) (ret := none) (by decide) rfl ?_
  intro p e s m args below meth c s₁ B hml hv
  obtain ⟨rfl, hsz, hP, hK, hD0⟩ := hv
  have hx := B.exec
  have hb := B.bytes
  have hr := B.returns
  have hbg : ∀ w ∈ sr_big, w.before _ s = true := fun w h => atoms_spec (ws := Cond.code yX_redirectFields bX_redirectFields 3 none :: sr_big) B.pre w (List.mem_cons_of_mem _ h)
  have hown : s.vm.findClass RX = some m.cls := findClass_of_methodNamed B.named
  have hlocks := B.notSynchronized
  subst hsz
  have hD := hD0.self (sz := s.heap.size)
  generalize hAe : va_A (wX h rr cc cI N R C li us ob sl go gi fr la re) s.heap.size = A at *
  have hA : ∀ q : Nat, s.heap.size ≤ q → A q := fun q h => by rw [← hAe]; exact Or.inr h
  have hS : va_S A s.heap s.heap [] := va_S.rf
  have hl := lv_entry ([.ref h]) (n := 3) (Nat.le_of_ble_eq_true rfl)
  rw [lg_entry_eq]
  generalize (lg_sl ([.ref h]) ++ List.replicate (3 - (lg_sl ([.ref h])).length) Slot.unset).toArray = ls at hl ⊢
  have hl : lv_has ls 3 [(0, .ref h)] := hl
  refine lv_iconst (v := 1) hx hb dX_redirectFields_0 (by decide) ?_
  refine lv_istore_n (lv' := [(1, .int 1), (0, .ref h)]) hx hb dX_redirectFields_1 rfl hl (by decide) rfl (fun ls hl => ?_)
  refine lv_iconst (v := 0) hx hb dX_redirectFields_2 (by decide) ?_
  refine lv_istore_n (lv' := [(2, .int 0), (1, .int 1), (0, .ref h)]) hx hb dX_redirectFields_3 rfl hl (by decide) rfl (fun ls hl => ?_)
  refine lp_X_redirectFields hx hb hml hown hbg hK hA hN ob.toNatClampNeg 0 C 1 _ _ _ (by simp) hP hD hS (lv_sub hl [2, 1, 0] rfl) ?_
  intro a' i' H locs ls hP hD hS hl
  refine W.widen (k := 0) (n := 0) (Nat.le_of_ble_eq_true rfl) (Nat.le_of_ble_eq_true rfl) ?_
  exact W.vret hx hb hr (fun t ht hW => ⟨⟨(), rfl, trivial, by rw [ht]; exact hP, va_K.moved hW.alike hK, hD⟩, hS.F ht⟩) hS.2.2 dX_redirectFields_41

set_option maxHeartbeats 4000000 in
set_option maxRecDepth 100000 in
theorem ct_X_moveCells (l : Launch) (D : va_G) (h rr cc : Nat) (cI : ClassId) (N : Nat) (R C : Nat → Int32) (li us ob sl go gi fr la re : Int32) (sz : Nat) (a b k : Int32) (hN : N < 2 ^ 31) : sy_Mv l yX_moveCells (Cond.code yX_moveCells bX_moveCells 4 none :: sr_big) { frames := 1, cells := 0, slots := 0, locals := 60 } D vwC [(cI, .int)] [.ref h, .int a, .int b, .int k] (wX h rr cc cI N R C li us ob sl go gi fr la re) sz (wX h rr cc cI N R (sr_mvc N C a b k) li us ob sl go gi fr la re) 0 0 := by
  refine Met.ofW (cc := bX_moveCells) (maxL := 4) (ret := none) (by decide) rfl ?_
  intro p e s m args below meth c s₁ B hml hv
  obtain ⟨rfl, hsz, hP, hK, hD0⟩ := hv
  have hx := B.exec
  have hb := B.bytes
  have hr := B.returns
  have hbg : ∀ w ∈ sr_big, w.before _ s = true := fun w h => atoms_spec (ws := Cond.code yX_moveCells bX_moveCells 4 none :: sr_big) B.pre w (List.mem_cons_of_mem _ h)
  have hown : s.vm.findClass RX = some m.cls := findClass_of_methodNamed B.named
  have hlocks := B.notSynchronized
  subst hsz
  have hD := hD0.self (sz := s.heap.size)
  generalize hAe : va_A (wX h rr cc cI N R C li us ob sl go gi fr la re) s.heap.size = A at *
  have hA : ∀ q : Nat, s.heap.size ≤ q → A q := fun q h => by rw [← hAe]; exact Or.inr h
  have hS : va_S A s.heap s.heap [] := va_S.rf
  have hl := lv_entry ([.ref h, .int a, .int b, .int k]) (n := 4) (Nat.le_of_ble_eq_true rfl)
  rw [lg_entry_eq]
  generalize (lg_sl ([.ref h, .int a, .int b, .int k]) ++ List.replicate (4 - (lg_sl ([.ref h, .int a, .int b, .int k])).length) Slot.unset).toArray = ls at hl ⊢
  have hl : lv_has ls 4 [(0, .ref h), (1, .int a), (2, .int b), (3, .int k)] := hl
  refine lv_iload_n hx hb dX_moveCells_0 rfl (lv_at hl 2 rfl) ?_
  refine lv_iconst (v := 1) hx hb dX_moveCells_1 (by decide) ?_
  refine lv_icmp_lt (tgt := 39) hx hb dX_moveCells_2 (by decide) (fun c_2 => ?_) (fun c_2 => ?_)
  · have eq : sr_mvc N C a b k = C := by simp only [sr_mvc, c_2, ↓reduceIte]
    rw [eq]
    refine W.widen (k := 0) (n := 0) (Nat.le_of_ble_eq_true rfl) (Nat.le_of_ble_eq_true rfl) ?_
    exact W.vret hx hb hr (fun t ht hW => ⟨⟨(), rfl, trivial, by rw [ht]; exact hP, va_K.moved hW.alike hK, hD⟩, hS.F ht⟩) hS.2.2 dX_moveCells_39
  · refine lv_iload_n hx hb dX_moveCells_5 rfl (lv_at hl 2 rfl) ?_
    refine lv_iload_n hx hb dX_moveCells_6 rfl (lv_at hl 1 rfl) ?_
    refine lv_icmp_ge (tgt := 39) hx hb dX_moveCells_7 (by decide) (fun c_7 => ?_) (fun c_7 => ?_)
    · have eq : sr_mvc N C a b k = C := by simp only [sr_mvc, c_2, c_7, ↓reduceIte]
      rw [eq]
      refine W.widen (k := 0) (n := 0) (Nat.le_of_ble_eq_true rfl) (Nat.le_of_ble_eq_true rfl) ?_
      exact W.vret hx hb hr (fun t ht hW => ⟨⟨(), rfl, trivial, by rw [ht]; exact hP, va_K.moved hW.alike hK, hD⟩, hS.F ht⟩) hS.2.2 dX_moveCells_39
    · refine lv_iload_n hx hb dX_moveCells_10 rfl (lv_at hl 3 rfl) ?_
      refine lv_if_le (tgt := 39) hx hb dX_moveCells_11 (by decide) (fun c_11 => ?_) (fun c_11 => ?_)
      · have eq : sr_mvc N C a b k = C := by simp only [sr_mvc, c_2, c_7, c_11, ↓reduceIte]
        rw [eq]
        refine W.widen (k := 0) (n := 0) (Nat.le_of_ble_eq_true rfl) (Nat.le_of_ble_eq_true rfl) ?_
        exact W.vret hx hb hr (fun t ht hW => ⟨⟨(), rfl, trivial, by rw [ht]; exact hP, va_K.moved hW.alike hK, hD⟩, hS.F ht⟩) hS.2.2 dX_moveCells_39
      · refine lv_iload_n hx hb dX_moveCells_14 rfl (lv_at hl 3 rfl) ?_
        refine lv_aload_n hx hb dX_moveCells_15 rfl (lv_at hl 0 rfl) ?_
        refine va_get (D := D) (ci := 0) (v := .ref cc) (C := RX) (T := TX) (N := 11) hx hb hbg bg_X hown hK hP 0 rfl rfl 1 (by decide) (hbg _ bw_52) (fun _ h9 => h9) rfl dX_moveCells_16 ?_
        refine va_alen hx hb hK hP 2 0 rfl rfl (v := nI N) rfl dX_moveCells_19 ?_
        refine lv_iload_n hx hb dX_moveCells_20 rfl (lv_at hl 1 rfl) ?_
        refine lv_isub hx hb dX_moveCells_21 ?_
        refine lv_icmp_gt (tgt := 39) hx hb dX_moveCells_22 (by decide) (fun c_22 => ?_) (fun c_22 => ?_)
        · have eq : sr_mvc N C a b k = C := by simp only [sr_mvc, c_2, c_7, c_11, c_22, ↓reduceIte]
          rw [eq]
          refine W.widen (k := 0) (n := 0) (Nat.le_of_ble_eq_true rfl) (Nat.le_of_ble_eq_true rfl) ?_
          exact W.vret hx hb hr (fun t ht hW => ⟨⟨(), rfl, trivial, by rw [ht]; exact hP, va_K.moved hW.alike hK, hD⟩, hS.F ht⟩) hS.2.2 dX_moveCells_39
        · refine lv_aload_n hx hb dX_moveCells_25 rfl (lv_at hl 0 rfl) ?_
          refine va_get (D := D) (ci := 0) (v := .ref cc) (C := RX) (T := TX) (N := 11) hx hb hbg bg_X hown hK hP 0 rfl rfl 1 (by decide) (hbg _ bw_52) (fun _ h9 => h9) rfl dX_moveCells_26 ?_
          refine lv_iload_n hx hb dX_moveCells_29 rfl (lv_at hl 1 rfl) ?_
          refine lv_aload_n hx hb dX_moveCells_30 rfl (lv_at hl 0 rfl) ?_
          refine va_get (D := D) (ci := 0) (v := .ref cc) (C := RX) (T := TX) (N := 11) hx hb hbg bg_X hown hK hP 0 rfl rfl 1 (by decide) (hbg _ bw_52) (fun _ h9 => h9) rfl dX_moveCells_31 ?_
          refine lv_iload_n hx hb dX_moveCells_34 rfl (lv_at hl 2 rfl) ?_
          refine lv_iload_n hx hb dX_moveCells_35 rfl (lv_at hl 3 rfl) ?_
          obtain ⟨m1, m2, m3, m4, m5⟩ := sr_mvH hN c_2 c_7 c_11 c_22
          refine va_copyi (ty := .int) hx hb (hml.trans hl.1.symm) hown (hbg _ bw_123) (hbg _ bw_125) (hbg _ bw_124) (hbg _ bw_42) hK hP hD hS 2 2 0 0 rfl rfl rfl rfl rfl m1 m2 m3 m4 m5 (fun _ _ => rfl) (Nat.le_of_ble_eq_true rfl) (Nat.le_of_ble_eq_true rfl) dX_moveCells_36 (fun H locs hP hD hS => ?_)
          have hP : va_P D vwC (wX h rr cc cI N R (va_cpy C C a.toNatClampNeg b.toNatClampNeg k.toNatClampNeg) li us ob sl go gi fr la re) H := hP
          have hD : va_D A (wX h rr cc cI N R (va_cpy C C a.toNatClampNeg b.toNatClampNeg k.toNatClampNeg) li us ob sl go gi fr la re) := hD
          have eq : sr_mvc N C a b k = va_cpy C C a.toNatClampNeg b.toNatClampNeg k.toNatClampNeg := by simp only [sr_mvc, c_2, c_7, c_11, c_22, ↓reduceIte]
          rw [eq]
          refine W.widen (k := 0) (n := 0) (Nat.le_of_ble_eq_true rfl) (Nat.le_of_ble_eq_true rfl) ?_
          exact W.vret hx hb hr (fun t ht hW => ⟨⟨(), rfl, trivial, by rw [ht]; exact hP, va_K.moved hW.alike hK, hD⟩, hS.F ht⟩) hS.2.2 dX_moveCells_39

set_option maxHeartbeats 4000000 in
set_option maxRecDepth 100000 in
theorem lp_X_moveReached {fr la re : Int32} (hx : p.tables.exec = Jvm.exec) (hb : c.code = bX_moveReached) (hml : c.maxLocals = 5) (hown : s.vm.findClass RX = some m.cls) (hbg : ∀ w ∈ sr_big, w.before args s = true) (hK : va_K D vwC [(cI, .int)] s) (hA : ∀ q : Nat, s.heap.size ≤ q → A q) (hN : N < 2 ^ 31) :
    ∀ (n j : Nat) (C : Nat → Int32) (a : Int32) (H : Heap) (locs : List Loc) (ls : Array Slot), j + n = ob.toNatClampNeg → va_P D vwC (wX h rr cc cI N R C li us ob sl go gi fr la re) H → va_D A (wX h rr cc cI N R C li us ob sl go gi fr la re) → va_S A s.heap H locs → lv_has ls 5 [(0, .ref h), (1, .int a), (2, .int (nI j))] →
      (∀ (a' i' : Int32) (H : Heap) (locs : List Loc) (ls : Array Slot), va_P D vwC (wX h rr cc cI N R (sr_mv N n C a) li us ob sl go gi fr la re) H → va_D A (wX h rr cc cI N R (sr_mv N n C a) li us ob sl go gi fr la re) → va_S A s.heap H locs → lv_has ls 5 [(0, .ref h), (1, .int a'), (2, .int i')] → W p l e { frames := 2, cells := 0, slots := 0, locals := 83 } s m args below meth c H locs 0 0 Q (F0 m 50 ls [])) →
      W p l e { frames := 2, cells := 0, slots := 0, locals := 83 } s m args below meth c H locs 0 0 Q (F0 m 4 ls []) := by
  intro n
  induction n with
  | zero =>
    intro j C a H locs ls hst hP hD hS hl kk
    refine lv_iload_n hx hb dX_moveReached_4 rfl (lv_at hl 2 rfl) ?_
    refine lv_aload_n hx hb dX_moveReached_5 rfl (lv_at hl 0 rfl) ?_
    refine va_get (D := D) (ci := 0) (v := .int ob) (C := RX) (T := TX) (N := 11) hx hb hbg bg_X hown hK hP 0 rfl rfl 4 (by decide) (hbg _ bw_55) (fun _ h9 => h9) rfl dX_moveReached_6 ?_
    refine lv_icmp_ge (tgt := 50) hx hb dX_moveReached_9 (by decide) (fun _ => ?_) (fun z => absurd ((sr_cle (by have := sr_clt ob; omega)).mpr (by omega)) z)
    exact kk a (nI j) _ _ _ hP hD hS (lv_sub hl [0, 1, 2] rfl)
  | succ n ih =>
    intro j C a H locs ls hst hP hD hS hl kk
    refine lv_iload_n hx hb dX_moveReached_4 rfl (lv_at hl 2 rfl) ?_
    refine lv_aload_n hx hb dX_moveReached_5 rfl (lv_at hl 0 rfl) ?_
    refine va_get (D := D) (ci := 0) (v := .int ob) (C := RX) (T := TX) (N := 11) hx hb hbg bg_X hown hK hP 0 rfl rfl 4 (by decide) (hbg _ bw_55) (fun _ h9 => h9) rfl dX_moveReached_6 ?_
    refine lv_icmp_ge (tgt := 50) hx hb dX_moveReached_9 (by decide) (fun z => absurd z (fun z => absurd ((sr_cle (by have := sr_clt ob; omega)).mp z) (by omega))) (fun _ => ?_)
    refine lv_aload_n hx hb dX_moveReached_12 rfl (lv_at hl 0 rfl) ?_
    refine lv_iload_n hx hb dX_moveReached_13 rfl (lv_at hl 1 rfl) ?_
    refine sy_cVi (wc := wX h rr cc cI N R C li us ob sl go gi fr la re) (wr := []) (w1 := wX h rr cc cI N R C li us ob sl go gi fr la re) (ci := 0) (q0 := 0) (As := [.int a]) (rest := []) ⟨hx, hb, hml, hown, hbg⟩ (ct_X_sizeOf l D h rr cc cI N R C li us ob sl go gi fr la re H.size a hN) (cwV 1 hbg (bg_V bw_87 bw_88 bw_3 bw_34 bw_89) rfl rfl rfl (by decide +kernel) ⟨Nat.le_of_ble_eq_true rfl, Nat.le_of_ble_eq_true rfl⟩) hK [0] rfl hP hD hS hA [0, 1, 2] [] rfl rfl rfl rfl (by decide) rfl rfl rfl hl.1 rfl (Nat.le_of_ble_eq_true rfl) dX_moveReached_14 ⟨Nat.le_of_ble_eq_true rfl, Nat.le_of_ble_eq_true rfl⟩ (fun H locs hP hD hS => ?_)
    have hP : va_P D vwC (wX h rr cc cI N R C li us ob sl go gi fr la re) H := hP
    have hD : va_D A (wX h rr cc cI N R C li us ob sl go gi fr la re) := hD
    refine lv_istore_n (lv' := [(3, .int (sr_si N C a)), (0, .ref h), (1, .int a), (2, .int (nI j))]) hx hb dX_moveReached_17 rfl hl (by decide) rfl (fun ls hl => ?_)
    refine lv_aload_n hx hb dX_moveReached_18 rfl (lv_at hl 1 rfl) ?_
    refine lv_iload_n hx hb dX_moveReached_19 rfl (lv_at hl 2 rfl) ?_
    refine lv_iconst (v := 2) hx hb dX_moveReached_20 (by decide) ?_
    refine lv_iadd hx hb dX_moveReached_21 ?_
    refine sy_cVi (wc := wX h rr cc cI N R C li us ob sl go gi fr la re) (wr := []) (w1 := wX h rr cc cI N R C li us ob sl go gi fr la re) (ci := 0) (q0 := 0) (As := [.int (a + 2)]) (rest := []) ⟨hx, hb, hml, hown, hbg⟩ (ct_X_read l D h rr cc cI N R C li us ob sl go gi fr la re H.size (a + 2) hN) (cwV 1 hbg (bg_V bw_90 bw_91 bw_4 bw_34 bw_92) rfl rfl rfl (by decide +kernel) ⟨Nat.le_of_ble_eq_true rfl, Nat.le_of_ble_eq_true rfl⟩) hK [0] rfl hP hD hS hA [0, 1, 2] [] rfl rfl rfl rfl (by decide) rfl rfl rfl hl.1 rfl (Nat.le_of_ble_eq_true rfl) dX_moveReached_22 ⟨Nat.le_of_ble_eq_true rfl, Nat.le_of_ble_eq_true rfl⟩ (fun H locs hP hD hS => ?_)
    have hP : va_P D vwC (wX h rr cc cI N R C li us ob sl go gi fr la re) H := hP
    have hD : va_D A (wX h rr cc cI N R C li us ob sl go gi fr la re) := hD
    refine lv_istore (lv' := [(4, .int (sr_rd N C (a + 2))), (3, .int (sr_si N C a)), (0, .ref h), (1, .int a), (2, .int (nI j))]) hx hb dX_moveReached_25 hl (by decide) rfl (fun ls hl => ?_)
    refine lv_iload hx hb dX_moveReached_27 (lv_at hl 0 rfl) ?_
    refine lv_if_eq (tgt := 40) hx hb dX_moveReached_29 (by decide) (fun c_29 => ?_) (fun c_29 => ?_)
    · refine lv_iload_n hx hb dX_moveReached_40 rfl (lv_at hl 3 rfl) ?_
      refine lv_iload_n hx hb dX_moveReached_41 rfl (lv_at hl 1 rfl) ?_
      refine lv_iadd hx hb dX_moveReached_42 ?_
      refine lv_istore_n (lv' := [(1, .int (a + (sr_si N C a))), (4, .int (sr_rd N C (a + 2))), (3, .int (sr_si N C a)), (0, .ref h), (2, .int (nI j))]) hx hb dX_moveReached_43 rfl hl (by decide) rfl (fun ls hl => ?_)
      refine lv_iinc (v := nI (j + 1)) (lv' := [(2, .int (nI (j + 1))), (1, .int (a + (sr_si N C a))), (4, .int (sr_rd N C (a + 2))), (3, .int (sr_si N C a)), (0, .ref h)]) hx hb dX_moveReached_44 hl (k := 4) rfl (nI_1 j) (by decide) rfl (fun ls hl => ?_)
      refine lv_goto (tgt := 4) hx hb dX_moveReached_47 (by decide) ?_
      have es : sr_mv N (n + 1) C a = sr_mv N n C (a + (sr_si N C a)) := by simp only [sr_mv, c_29, ↓reduceIte]
      rw [es] at kk
      exact ih (j + 1) C (a + (sr_si N C a)) _ _ _ (by omega) hP hD hS (lv_sub hl [4, 1, 0] rfl) kk
    · refine lv_aload_n hx hb dX_moveReached_32 rfl (lv_at hl 2 rfl) ?_
      refine lv_iload_n hx hb dX_moveReached_33 rfl (lv_at hl 3 rfl) ?_
      refine lv_iload hx hb dX_moveReached_34 (lv_at hl 0 rfl) ?_
      refine lv_iload_n hx hb dX_moveReached_36 rfl (lv_at hl 1 rfl) ?_
      refine sy_cVv (wc := wX h rr cc cI N R C li us ob sl go gi fr la re) (wr := []) (w1 := wX h rr cc cI N R (sr_mvc N C a (sr_rd N C (a + 2)) (sr_si N C a)) li us ob sl go gi fr la re) (ci := 0) (q0 := 0) (As := [.int a, .int (sr_rd N C (a + 2)), .int (sr_si N C a)]) (rest := []) ⟨hx, hb, hml, hown, hbg⟩ (ct_X_moveCells l D h rr cc cI N R C li us ob sl go gi fr la re H.size a (sr_rd N C (a + 2)) (sr_si N C a) hN) (cwV 3 hbg (bg_V bw_120 bw_121 bw_14 bw_34 bw_122) rfl rfl rfl (by decide +kernel) ⟨Nat.le_of_ble_eq_true rfl, Nat.le_of_ble_eq_true rfl⟩) hK [0] rfl hP hD hS hA [0, 1, 2] [] rfl rfl rfl rfl (by decide) rfl rfl rfl hl.1 rfl (Nat.le_of_ble_eq_true rfl) dX_moveReached_37 ⟨Nat.le_of_ble_eq_true rfl, Nat.le_of_ble_eq_true rfl⟩ (fun H locs hP hD hS => ?_)
      have hP : va_P D vwC (wX h rr cc cI N R (sr_mvc N C a (sr_rd N C (a + 2)) (sr_si N C a)) li us ob sl go gi fr la re) H := hP
      have hD : va_D A (wX h rr cc cI N R (sr_mvc N C a (sr_rd N C (a + 2)) (sr_si N C a)) li us ob sl go gi fr la re) := hD
      refine lv_iload_n hx hb dX_moveReached_40 rfl (lv_at hl 3 rfl) ?_
      refine lv_iload_n hx hb dX_moveReached_41 rfl (lv_at hl 1 rfl) ?_
      refine lv_iadd hx hb dX_moveReached_42 ?_
      refine lv_istore_n (lv' := [(1, .int (a + (sr_si N C a))), (4, .int (sr_rd N C (a + 2))), (3, .int (sr_si N C a)), (0, .ref h), (2, .int (nI j))]) hx hb dX_moveReached_43 rfl hl (by decide) rfl (fun ls hl => ?_)
      refine lv_iinc (v := nI (j + 1)) (lv' := [(2, .int (nI (j + 1))), (1, .int (a + (sr_si N C a))), (4, .int (sr_rd N C (a + 2))), (3, .int (sr_si N C a)), (0, .ref h)]) hx hb dX_moveReached_44 hl (k := 4) rfl (nI_1 j) (by decide) rfl (fun ls hl => ?_)
      refine lv_goto (tgt := 4) hx hb dX_moveReached_47 (by decide) ?_
      have es : sr_mv N (n + 1) C a = sr_mv N n (sr_mvc N C a (sr_rd N C (a + 2)) (sr_si N C a)) (a + (sr_si N C a)) := by simp only [sr_mv, c_29, ↓reduceIte]
      rw [es] at kk
      exact ih (j + 1) (sr_mvc N C a (sr_rd N C (a + 2)) (sr_si N C a)) (a + (sr_si N C a)) _ _ _ (by omega) hP hD hS (lv_sub hl [4, 1, 0] rfl) kk

set_option maxHeartbeats 4000000 in
set_option maxRecDepth 100000 in
theorem ct_X_moveReached (l : Launch) (D : va_G) (h rr cc : Nat) (cI : ClassId) (N : Nat) (R C : Nat → Int32) (li us ob sl go gi fr la re : Int32) (sz : Nat) (hN : N < 2 ^ 31) : sy_Mv l yX_moveReached (Cond.code yX_moveReached bX_moveReached 5 none :: sr_big) { frames := 2, cells := 0, slots := 0, locals := 83 } D vwC [(cI, .int)] [.ref h] (wX h rr cc cI N R C li us ob sl go gi fr la re) sz (wX h rr cc cI N R (sr_mv N ob.toNatClampNeg C 1) li us ob sl go gi fr la re) 0 0 := by
  refine Met.ofW (cc := bX_moveReached) (maxL := 5) (ret := none) (by decide) rfl ?_
  intro p e s m args below meth c s₁ B hml hv
  obtain ⟨rfl, hsz, hP, hK, hD0⟩ := hv
  have hx := B.exec
  have hb := B.bytes
  have hr := B.returns
  have hbg : ∀ w ∈ sr_big, w.before _ s = true := fun w h => atoms_spec (ws := Cond.code yX_moveReached bX_moveReached 5 none :: sr_big) B.pre w (List.mem_cons_of_mem _ h)
  have hown : s.vm.findClass RX = some m.cls := findClass_of_methodNamed B.named
  have hlocks := B.notSynchronized
  subst hsz
  have hD := hD0.self (sz := s.heap.size)
  generalize hAe : va_A (wX h rr cc cI N R C li us ob sl go gi fr la re) s.heap.size = A at *
  have hA : ∀ q : Nat, s.heap.size ≤ q → A q := fun q h => by rw [← hAe]; exact Or.inr h
  have hS : va_S A s.heap s.heap [] := va_S.rf
  have hl := lv_entry ([.ref h]) (n := 5) (Nat.le_of_ble_eq_true rfl)
  rw [lg_entry_eq]
  generalize (lg_sl ([.ref h]) ++ List.replicate (5 - (lg_sl ([.ref h])).length) Slot.unset).toArray = ls at hl ⊢
  have hl : lv_has ls 5 [(0, .ref h)] := hl
  refine lv_iconst (v := 1) hx hb dX_moveReached_0 (by decide) ?_
  refine lv_istore_n (lv' := [(1, .int 1), (0, .ref h)]) hx hb dX_moveReached_1 rfl hl (by decide) rfl (fun ls hl => ?_)
  refine lv_iconst (v := 0) hx hb dX_moveReached_2 (by decide) ?_
  refine lv_istore_n (lv' := [(2, .int 0), (1, .int 1), (0, .ref h)]) hx hb dX_moveReached_3 rfl hl (by decide) rfl (fun ls hl => ?_)
  refine lp_X_moveReached hx hb hml hown hbg hK hA hN ob.toNatClampNeg 0 C 1 _ _ _ (by simp) hP hD hS (lv_sub hl [2, 1, 0] rfl) ?_
  intro a' i' H locs ls hP hD hS hl
  refine W.widen (k := 0) (n := 0) (Nat.le_of_ble_eq_true rfl) (Nat.le_of_ble_eq_true rfl) ?_
  exact W.vret hx hb hr (fun t ht hW => ⟨⟨(), rfl, trivial, by rw [ht]; exact hP, va_K.moved hW.alike hK, hD⟩, hS.F ht⟩) hS.2.2 dX_moveReached_50

set_option maxHeartbeats 4000000 in
set_option maxRecDepth 100000 in
theorem ct_X_slide (l : Launch) (D : va_G) (h rr cc : Nat) (cI : ClassId) (N : Nat) (R C : Nat → Int32) (li us ob sl go gi fr la re : Int32) (sz : Nat) (hN : N < 2 ^ 31) : sy_Mi l yX_slide (Cond.code yX_slide bX_slide 2 (some .int) :: sr_big) { frames := 4, cells := 0, slots := 0, locals := 107 } D vwC [(cI, .int)] [.ref h] (wX h rr cc cI N R C li us ob sl go gi fr la re) sz ((sr_chp N ob.toNatClampNeg (sr_chR N R ob.toNatClampNeg C).1 0 1).2) (wX h rr cc cI N (sr_rr N (sr_chp N ob.toNatClampNeg (sr_chR N R ob.toNatClampNeg C).1 0 1).1 16 0 R) (sr_sC N ob.toNatClampNeg (sr_chR N R ob.toNatClampNeg C).1) li ((sr_chp N ob.toNatClampNeg (sr_chR N R ob.toNatClampNeg C).1 0 1).2) ((sr_chR N R ob.toNatClampNeg C).2.2.2) (sl + 1) (go + (ob - (sr_chR N R ob.toNatClampNeg C).2.2.2)) gi ((sr_chR N R ob.toNatClampNeg C).2.1) ((sr_chR N R ob.toNatClampNeg C).2.2.1) ((sr_chR N R ob.toNatClampNeg C).2.2.2)) 0 0 := by
  refine Met.ofW (cc := bX_slide) (maxL := 2) (ret := (some .int)) (by decide) rfl ?_
  intro p e s m args below meth c s₁ B hml hv
  obtain ⟨rfl, hsz, hP, hK, hD0⟩ := hv
  have hx := B.exec
  have hb := B.bytes
  have hr := B.returns
  have hbg : ∀ w ∈ sr_big, w.before _ s = true := fun w h => atoms_spec (ws := Cond.code yX_slide bX_slide 2 (some .int) :: sr_big) B.pre w (List.mem_cons_of_mem _ h)
  have hown : s.vm.findClass RX = some m.cls := findClass_of_methodNamed B.named
  have hlocks := B.notSynchronized
  subst hsz
  have hD := hD0.self (sz := s.heap.size)
  generalize hAe : va_A (wX h rr cc cI N R C li us ob sl go gi fr la re) s.heap.size = A at *
  have hA : ∀ q : Nat, s.heap.size ≤ q → A q := fun q h => by rw [← hAe]; exact Or.inr h
  have hS : va_S A s.heap s.heap [] := va_S.rf
  have hl := lv_entry ([.ref h]) (n := 2) (Nat.le_of_ble_eq_true rfl)
  rw [lg_entry_eq]
  generalize (lg_sl ([.ref h]) ++ List.replicate (2 - (lg_sl ([.ref h])).length) Slot.unset).toArray = ls at hl ⊢
  have hl : lv_has ls 2 [(0, .ref h)] := hl
  refine lv_aload_n hx hb dX_slide_0 rfl (lv_at hl 0 rfl) ?_
  refine sy_cVv (wc := wX h rr cc cI N R C li us ob sl go gi fr la re) (wr := []) (w1 := wX h rr cc cI N R ((sr_chR N R ob.toNatClampNeg C).1) li us ob sl go gi ((sr_chR N R ob.toNatClampNeg C).2.1) ((sr_chR N R ob.toNatClampNeg C).2.2.1) ((sr_chR N R ob.toNatClampNeg C).2.2.2)) (ci := 0) (q0 := 0) (As := []) (rest := []) ⟨hx, hb, hml, hown, hbg⟩ (ct_X_chainReached l D h rr cc cI N R C li us ob sl go gi fr la re s.heap.size  hN) (cwV 0 hbg (bg_V bw_78 bw_79 bw_0 bw_34 bw_80) rfl rfl rfl (by decide +kernel) ⟨Nat.le_of_ble_eq_true rfl, Nat.le_of_ble_eq_true rfl⟩) hK [0] rfl hP hD hS hA [0, 1, 2] [] rfl rfl rfl rfl (by decide) rfl rfl rfl hl.1 rfl (Nat.le_of_ble_eq_true rfl) dX_slide_1 ⟨Nat.le_of_ble_eq_true rfl, Nat.le_of_ble_eq_true rfl⟩ (fun H locs hP hD hS => ?_)
  have hP : va_P D vwC (wX h rr cc cI N R ((sr_chR N R ob.toNatClampNeg C).1) li us ob sl go gi ((sr_chR N R ob.toNatClampNeg C).2.1) ((sr_chR N R ob.toNatClampNeg C).2.2.1) ((sr_chR N R ob.toNatClampNeg C).2.2.2)) H := hP
  have hD : va_D A (wX h rr cc cI N R ((sr_chR N R ob.toNatClampNeg C).1) li us ob sl go gi ((sr_chR N R ob.toNatClampNeg C).2.1) ((sr_chR N R ob.toNatClampNeg C).2.2.1) ((sr_chR N R ob.toNatClampNeg C).2.2.2)) := hD
  refine lv_aload_n hx hb dX_slide_4 rfl (lv_at hl 0 rfl) ?_
  refine sy_cVi (wc := wX h rr cc cI N R ((sr_chR N R ob.toNatClampNeg C).1) li us ob sl go gi ((sr_chR N R ob.toNatClampNeg C).2.1) ((sr_chR N R ob.toNatClampNeg C).2.2.1) ((sr_chR N R ob.toNatClampNeg C).2.2.2)) (wr := []) (w1 := wX h rr cc cI N R ((sr_chp N ob.toNatClampNeg ((sr_chR N R ob.toNatClampNeg C).1) 0 1).1) li us ob sl go gi ((sr_chR N R ob.toNatClampNeg C).2.1) ((sr_chR N R ob.toNatClampNeg C).2.2.1) ((sr_chR N R ob.toNatClampNeg C).2.2.2)) (ci := 0) (q0 := 0) (As := []) (rest := []) ⟨hx, hb, hml, hown, hbg⟩ (ct_X_choosePlaces l D h rr cc cI N R ((sr_chR N R ob.toNatClampNeg C).1) li us ob sl go gi ((sr_chR N R ob.toNatClampNeg C).2.1) ((sr_chR N R ob.toNatClampNeg C).2.2.1) ((sr_chR N R ob.toNatClampNeg C).2.2.2) H.size  hN) (cwV 0 hbg (bg_V bw_102 bw_103 bw_8 bw_34 bw_104) rfl rfl rfl (by decide +kernel) ⟨Nat.le_of_ble_eq_true rfl, Nat.le_of_ble_eq_true rfl⟩) hK [0] rfl hP hD hS hA [0, 1, 2] [] rfl rfl rfl rfl (by decide) rfl rfl rfl hl.1 rfl (Nat.le_of_ble_eq_true rfl) dX_slide_5 ⟨Nat.le_of_ble_eq_true rfl, Nat.le_of_ble_eq_true rfl⟩ (fun H locs hP hD hS => ?_)
  have hP : va_P D vwC (wX h rr cc cI N R ((sr_chp N ob.toNatClampNeg ((sr_chR N R ob.toNatClampNeg C).1) 0 1).1) li us ob sl go gi ((sr_chR N R ob.toNatClampNeg C).2.1) ((sr_chR N R ob.toNatClampNeg C).2.2.1) ((sr_chR N R ob.toNatClampNeg C).2.2.2)) H := hP
  have hD : va_D A (wX h rr cc cI N R ((sr_chp N ob.toNatClampNeg ((sr_chR N R ob.toNatClampNeg C).1) 0 1).1) li us ob sl go gi ((sr_chR N R ob.toNatClampNeg C).2.1) ((sr_chR N R ob.toNatClampNeg C).2.2.1) ((sr_chR N R ob.toNatClampNeg C).2.2.2)) := hD
  refine lv_istore_n (lv' := [(1, .int ((sr_chp N ob.toNatClampNeg ((sr_chR N R ob.toNatClampNeg C).1) 0 1).2)), (0, .ref h)]) hx hb dX_slide_8 rfl hl (by decide) rfl (fun ls hl => ?_)
  refine lv_aload_n hx hb dX_slide_9 rfl (lv_at hl 1 rfl) ?_
  refine sy_cVv (wc := wX h rr cc cI N R ((sr_chp N ob.toNatClampNeg ((sr_chR N R ob.toNatClampNeg C).1) 0 1).1) li us ob sl go gi ((sr_chR N R ob.toNatClampNeg C).2.1) ((sr_chR N R ob.toNatClampNeg C).2.2.1) ((sr_chR N R ob.toNatClampNeg C).2.2.2)) (wr := []) (w1 := wX h rr cc cI N (sr_rr N ((sr_chp N ob.toNatClampNeg ((sr_chR N R ob.toNatClampNeg C).1) 0 1).1) 16 0 R) ((sr_chp N ob.toNatClampNeg ((sr_chR N R ob.toNatClampNeg C).1) 0 1).1) li us ob sl go gi ((sr_chR N R ob.toNatClampNeg C).2.1) ((sr_chR N R ob.toNatClampNeg C).2.2.1) ((sr_chR N R ob.toNatClampNeg C).2.2.2)) (ci := 0) (q0 := 0) (As := []) (rest := []) ⟨hx, hb, hml, hown, hbg⟩ (ct_X_redirectRoots l D h rr cc cI N R ((sr_chp N ob.toNatClampNeg ((sr_chR N R ob.toNatClampNeg C).1) 0 1).1) li us ob sl go gi ((sr_chR N R ob.toNatClampNeg C).2.1) ((sr_chR N R ob.toNatClampNeg C).2.2.1) ((sr_chR N R ob.toNatClampNeg C).2.2.2) H.size  hN) (cwV 0 hbg (bg_V bw_105 bw_106 bw_9 bw_34 bw_107) rfl rfl rfl (by decide +kernel) ⟨Nat.le_of_ble_eq_true rfl, Nat.le_of_ble_eq_true rfl⟩) hK [0] rfl hP hD hS hA [0, 1, 2] [] rfl rfl rfl rfl (by decide) rfl rfl rfl hl.1 rfl (Nat.le_of_ble_eq_true rfl) dX_slide_10 ⟨Nat.le_of_ble_eq_true rfl, Nat.le_of_ble_eq_true rfl⟩ (fun H locs hP hD hS => ?_)
  have hP : va_P D vwC (wX h rr cc cI N (sr_rr N ((sr_chp N ob.toNatClampNeg ((sr_chR N R ob.toNatClampNeg C).1) 0 1).1) 16 0 R) ((sr_chp N ob.toNatClampNeg ((sr_chR N R ob.toNatClampNeg C).1) 0 1).1) li us ob sl go gi ((sr_chR N R ob.toNatClampNeg C).2.1) ((sr_chR N R ob.toNatClampNeg C).2.2.1) ((sr_chR N R ob.toNatClampNeg C).2.2.2)) H := hP
  have hD : va_D A (wX h rr cc cI N (sr_rr N ((sr_chp N ob.toNatClampNeg ((sr_chR N R ob.toNatClampNeg C).1) 0 1).1) 16 0 R) ((sr_chp N ob.toNatClampNeg ((sr_chR N R ob.toNatClampNeg C).1) 0 1).1) li us ob sl go gi ((sr_chR N R ob.toNatClampNeg C).2.1) ((sr_chR N R ob.toNatClampNeg C).2.2.1) ((sr_chR N R ob.toNatClampNeg C).2.2.2)) := hD
  refine lv_aload_n hx hb dX_slide_13 rfl (lv_at hl 1 rfl) ?_
  refine sy_cVv (wc := wX h rr cc cI N (sr_rr N ((sr_chp N ob.toNatClampNeg ((sr_chR N R ob.toNatClampNeg C).1) 0 1).1) 16 0 R) ((sr_chp N ob.toNatClampNeg ((sr_chR N R ob.toNatClampNeg C).1) 0 1).1) li us ob sl go gi ((sr_chR N R ob.toNatClampNeg C).2.1) ((sr_chR N R ob.toNatClampNeg C).2.2.1) ((sr_chR N R ob.toNatClampNeg C).2.2.2)) (wr := []) (w1 := wX h rr cc cI N (sr_rr N ((sr_chp N ob.toNatClampNeg ((sr_chR N R ob.toNatClampNeg C).1) 0 1).1) 16 0 R) (sr_rfs N ob.toNatClampNeg ((sr_chp N ob.toNatClampNeg ((sr_chR N R ob.toNatClampNeg C).1) 0 1).1) 1) li us ob sl go gi ((sr_chR N R ob.toNatClampNeg C).2.1) ((sr_chR N R ob.toNatClampNeg C).2.2.1) ((sr_chR N R ob.toNatClampNeg C).2.2.2)) (ci := 0) (q0 := 0) (As := []) (rest := []) ⟨hx, hb, hml, hown, hbg⟩ (ct_X_redirectFields l D h rr cc cI N (sr_rr N ((sr_chp N ob.toNatClampNeg ((sr_chR N R ob.toNatClampNeg C).1) 0 1).1) 16 0 R) ((sr_chp N ob.toNatClampNeg ((sr_chR N R ob.toNatClampNeg C).1) 0 1).1) li us ob sl go gi ((sr_chR N R ob.toNatClampNeg C).2.1) ((sr_chR N R ob.toNatClampNeg C).2.2.1) ((sr_chR N R ob.toNatClampNeg C).2.2.2) H.size  hN) (cwV 0 hbg (bg_V bw_111 bw_112 bw_11 bw_34 bw_113) rfl rfl rfl (by decide +kernel) ⟨Nat.le_of_ble_eq_true rfl, Nat.le_of_ble_eq_true rfl⟩) hK [0] rfl hP hD hS hA [0, 1, 2] [] rfl rfl rfl rfl (by decide) rfl rfl rfl hl.1 rfl (Nat.le_of_ble_eq_true rfl) dX_slide_14 ⟨Nat.le_of_ble_eq_true rfl, Nat.le_of_ble_eq_true rfl⟩ (fun H locs hP hD hS => ?_)
  have hP : va_P D vwC (wX h rr cc cI N (sr_rr N ((sr_chp N ob.toNatClampNeg ((sr_chR N R ob.toNatClampNeg C).1) 0 1).1) 16 0 R) (sr_rfs N ob.toNatClampNeg ((sr_chp N ob.toNatClampNeg ((sr_chR N R ob.toNatClampNeg C).1) 0 1).1) 1) li us ob sl go gi ((sr_chR N R ob.toNatClampNeg C).2.1) ((sr_chR N R ob.toNatClampNeg C).2.2.1) ((sr_chR N R ob.toNatClampNeg C).2.2.2)) H := hP
  have hD : va_D A (wX h rr cc cI N (sr_rr N ((sr_chp N ob.toNatClampNeg ((sr_chR N R ob.toNatClampNeg C).1) 0 1).1) 16 0 R) (sr_rfs N ob.toNatClampNeg ((sr_chp N ob.toNatClampNeg ((sr_chR N R ob.toNatClampNeg C).1) 0 1).1) 1) li us ob sl go gi ((sr_chR N R ob.toNatClampNeg C).2.1) ((sr_chR N R ob.toNatClampNeg C).2.2.1) ((sr_chR N R ob.toNatClampNeg C).2.2.2)) := hD
  refine lv_aload_n hx hb dX_slide_17 rfl (lv_at hl 1 rfl) ?_
  refine sy_cVv (wc := wX h rr cc cI N (sr_rr N ((sr_chp N ob.toNatClampNeg ((sr_chR N R ob.toNatClampNeg C).1) 0 1).1) 16 0 R) (sr_rfs N ob.toNatClampNeg ((sr_chp N ob.toNatClampNeg ((sr_chR N R ob.toNatClampNeg C).1) 0 1).1) 1) li us ob sl go gi ((sr_chR N R ob.toNatClampNeg C).2.1) ((sr_chR N R ob.toNatClampNeg C).2.2.1) ((sr_chR N R ob.toNatClampNeg C).2.2.2)) (wr := []) (w1 := wX h rr cc cI N (sr_rr N ((sr_chp N ob.toNatClampNeg ((sr_chR N R ob.toNatClampNeg C).1) 0 1).1) 16 0 R) (sr_mv N ob.toNatClampNeg (sr_rfs N ob.toNatClampNeg ((sr_chp N ob.toNatClampNeg ((sr_chR N R ob.toNatClampNeg C).1) 0 1).1) 1) 1) li us ob sl go gi ((sr_chR N R ob.toNatClampNeg C).2.1) ((sr_chR N R ob.toNatClampNeg C).2.2.1) ((sr_chR N R ob.toNatClampNeg C).2.2.2)) (ci := 0) (q0 := 0) (As := []) (rest := []) ⟨hx, hb, hml, hown, hbg⟩ (ct_X_moveReached l D h rr cc cI N (sr_rr N ((sr_chp N ob.toNatClampNeg ((sr_chR N R ob.toNatClampNeg C).1) 0 1).1) 16 0 R) (sr_rfs N ob.toNatClampNeg ((sr_chp N ob.toNatClampNeg ((sr_chR N R ob.toNatClampNeg C).1) 0 1).1) 1) li us ob sl go gi ((sr_chR N R ob.toNatClampNeg C).2.1) ((sr_chR N R ob.toNatClampNeg C).2.2.1) ((sr_chR N R ob.toNatClampNeg C).2.2.2) H.size  hN) (cwV 0 hbg (bg_V bw_117 bw_118 bw_13 bw_34 bw_119) rfl rfl rfl (by decide +kernel) ⟨Nat.le_of_ble_eq_true rfl, Nat.le_of_ble_eq_true rfl⟩) hK [0] rfl hP hD hS hA [0, 1, 2] [] rfl rfl rfl rfl (by decide) rfl rfl rfl hl.1 rfl (Nat.le_of_ble_eq_true rfl) dX_slide_18 ⟨Nat.le_of_ble_eq_true rfl, Nat.le_of_ble_eq_true rfl⟩ (fun H locs hP hD hS => ?_)
  have hP : va_P D vwC (wX h rr cc cI N (sr_rr N ((sr_chp N ob.toNatClampNeg ((sr_chR N R ob.toNatClampNeg C).1) 0 1).1) 16 0 R) (sr_mv N ob.toNatClampNeg (sr_rfs N ob.toNatClampNeg ((sr_chp N ob.toNatClampNeg ((sr_chR N R ob.toNatClampNeg C).1) 0 1).1) 1) 1) li us ob sl go gi ((sr_chR N R ob.toNatClampNeg C).2.1) ((sr_chR N R ob.toNatClampNeg C).2.2.1) ((sr_chR N R ob.toNatClampNeg C).2.2.2)) H := hP
  have hD : va_D A (wX h rr cc cI N (sr_rr N ((sr_chp N ob.toNatClampNeg ((sr_chR N R ob.toNatClampNeg C).1) 0 1).1) 16 0 R) (sr_mv N ob.toNatClampNeg (sr_rfs N ob.toNatClampNeg ((sr_chp N ob.toNatClampNeg ((sr_chR N R ob.toNatClampNeg C).1) 0 1).1) 1) 1) li us ob sl go gi ((sr_chR N R ob.toNatClampNeg C).2.1) ((sr_chR N R ob.toNatClampNeg C).2.2.1) ((sr_chR N R ob.toNatClampNeg C).2.2.2)) := hD
  refine lv_aload_n hx hb dX_slide_21 rfl (lv_at hl 1 rfl) ?_
  refine lv_dup hx hb dX_slide_22 rfl ?_
  refine va_get (D := D) (ci := 0) (v := .int sl) (C := RX) (T := TX) (N := 11) hx hb hbg bg_X hown hK hP 0 rfl rfl 5 (by decide) (hbg _ bw_56) (fun _ h9 => h9) rfl dX_slide_23 ?_
  refine lv_iconst (v := 1) hx hb dX_slide_26 (by decide) ?_
  refine lv_iadd hx hb dX_slide_27 ?_
  refine va_put (D := D) (ci := 0) (v := .int (sl + 1)) (ty := .int) (C := RX) (T := TX) (N := 11) hx hb hbg bg_X tX tX_ok nX hown hK hP hD hS 0 rfl rfl 5 (by decide) (hbg _ bw_56) (fun _ h9 => h9) rfl (by decide +kernel) rfl rfl (Nat.le_of_ble_eq_true rfl) dX_slide_28 (fun H locs hP hD hS => ?_)
  have hP : va_P D vwC (wX h rr cc cI N (sr_rr N ((sr_chp N ob.toNatClampNeg ((sr_chR N R ob.toNatClampNeg C).1) 0 1).1) 16 0 R) (sr_mv N ob.toNatClampNeg (sr_rfs N ob.toNatClampNeg ((sr_chp N ob.toNatClampNeg ((sr_chR N R ob.toNatClampNeg C).1) 0 1).1) 1) 1) li us ob (sl + 1) go gi ((sr_chR N R ob.toNatClampNeg C).2.1) ((sr_chR N R ob.toNatClampNeg C).2.2.1) ((sr_chR N R ob.toNatClampNeg C).2.2.2)) H := hP
  have hD : va_D A (wX h rr cc cI N (sr_rr N ((sr_chp N ob.toNatClampNeg ((sr_chR N R ob.toNatClampNeg C).1) 0 1).1) 16 0 R) (sr_mv N ob.toNatClampNeg (sr_rfs N ob.toNatClampNeg ((sr_chp N ob.toNatClampNeg ((sr_chR N R ob.toNatClampNeg C).1) 0 1).1) 1) 1) li us ob (sl + 1) go gi ((sr_chR N R ob.toNatClampNeg C).2.1) ((sr_chR N R ob.toNatClampNeg C).2.2.1) ((sr_chR N R ob.toNatClampNeg C).2.2.2)) := hD
  refine lv_aload_n hx hb dX_slide_31 rfl (lv_at hl 1 rfl) ?_
  refine lv_dup hx hb dX_slide_32 rfl ?_
  refine va_get (D := D) (ci := 0) (v := .int go) (C := RX) (T := TX) (N := 11) hx hb hbg bg_X hown hK hP 0 rfl rfl 6 (by decide) (hbg _ bw_57) (fun _ h9 => h9) rfl dX_slide_33 ?_
  refine lv_aload_n hx hb dX_slide_36 rfl (lv_at hl 1 rfl) ?_
  refine va_get (D := D) (ci := 0) (v := .int ob) (C := RX) (T := TX) (N := 11) hx hb hbg bg_X hown hK hP 0 rfl rfl 4 (by decide) (hbg _ bw_55) (fun _ h9 => h9) rfl dX_slide_37 ?_
  refine lv_aload_n hx hb dX_slide_40 rfl (lv_at hl 1 rfl) ?_
  refine va_get (D := D) (ci := 0) (v := .int ((sr_chR N R ob.toNatClampNeg C).2.2.2)) (C := RX) (T := TX) (N := 11) hx hb hbg bg_X hown hK hP 0 rfl rfl 10 (by decide) (hbg _ bw_61) (fun _ h9 => h9) rfl dX_slide_41 ?_
  refine lv_isub hx hb dX_slide_44 ?_
  refine lv_iadd hx hb dX_slide_45 ?_
  refine va_put (D := D) (ci := 0) (v := .int (go + (ob - ((sr_chR N R ob.toNatClampNeg C).2.2.2)))) (ty := .int) (C := RX) (T := TX) (N := 11) hx hb hbg bg_X tX tX_ok nX hown hK hP hD hS 0 rfl rfl 6 (by decide) (hbg _ bw_57) (fun _ h9 => h9) rfl (by decide +kernel) rfl rfl (Nat.le_of_ble_eq_true rfl) dX_slide_46 (fun H locs hP hD hS => ?_)
  have hP : va_P D vwC (wX h rr cc cI N (sr_rr N ((sr_chp N ob.toNatClampNeg ((sr_chR N R ob.toNatClampNeg C).1) 0 1).1) 16 0 R) (sr_mv N ob.toNatClampNeg (sr_rfs N ob.toNatClampNeg ((sr_chp N ob.toNatClampNeg ((sr_chR N R ob.toNatClampNeg C).1) 0 1).1) 1) 1) li us ob (sl + 1) (go + (ob - ((sr_chR N R ob.toNatClampNeg C).2.2.2))) gi ((sr_chR N R ob.toNatClampNeg C).2.1) ((sr_chR N R ob.toNatClampNeg C).2.2.1) ((sr_chR N R ob.toNatClampNeg C).2.2.2)) H := hP
  have hD : va_D A (wX h rr cc cI N (sr_rr N ((sr_chp N ob.toNatClampNeg ((sr_chR N R ob.toNatClampNeg C).1) 0 1).1) 16 0 R) (sr_mv N ob.toNatClampNeg (sr_rfs N ob.toNatClampNeg ((sr_chp N ob.toNatClampNeg ((sr_chR N R ob.toNatClampNeg C).1) 0 1).1) 1) 1) li us ob (sl + 1) (go + (ob - ((sr_chR N R ob.toNatClampNeg C).2.2.2))) gi ((sr_chR N R ob.toNatClampNeg C).2.1) ((sr_chR N R ob.toNatClampNeg C).2.2.1) ((sr_chR N R ob.toNatClampNeg C).2.2.2)) := hD
  refine lv_aload_n hx hb dX_slide_49 rfl (lv_at hl 1 rfl) ?_
  refine lv_aload_n hx hb dX_slide_50 rfl (lv_at hl 1 rfl) ?_
  refine va_get (D := D) (ci := 0) (v := .int ((sr_chR N R ob.toNatClampNeg C).2.2.2)) (C := RX) (T := TX) (N := 11) hx hb hbg bg_X hown hK hP 0 rfl rfl 10 (by decide) (hbg _ bw_61) (fun _ h9 => h9) rfl dX_slide_51 ?_
  refine va_put (D := D) (ci := 0) (v := .int ((sr_chR N R ob.toNatClampNeg C).2.2.2)) (ty := .int) (C := RX) (T := TX) (N := 11) hx hb hbg bg_X tX tX_ok nX hown hK hP hD hS 0 rfl rfl 4 (by decide) (hbg _ bw_55) (fun _ h9 => h9) rfl (by decide +kernel) rfl rfl (Nat.le_of_ble_eq_true rfl) dX_slide_54 (fun H locs hP hD hS => ?_)
  have hP : va_P D vwC (wX h rr cc cI N (sr_rr N ((sr_chp N ob.toNatClampNeg ((sr_chR N R ob.toNatClampNeg C).1) 0 1).1) 16 0 R) (sr_mv N ob.toNatClampNeg (sr_rfs N ob.toNatClampNeg ((sr_chp N ob.toNatClampNeg ((sr_chR N R ob.toNatClampNeg C).1) 0 1).1) 1) 1) li us ((sr_chR N R ob.toNatClampNeg C).2.2.2) (sl + 1) (go + (ob - ((sr_chR N R ob.toNatClampNeg C).2.2.2))) gi ((sr_chR N R ob.toNatClampNeg C).2.1) ((sr_chR N R ob.toNatClampNeg C).2.2.1) ((sr_chR N R ob.toNatClampNeg C).2.2.2)) H := hP
  have hD : va_D A (wX h rr cc cI N (sr_rr N ((sr_chp N ob.toNatClampNeg ((sr_chR N R ob.toNatClampNeg C).1) 0 1).1) 16 0 R) (sr_mv N ob.toNatClampNeg (sr_rfs N ob.toNatClampNeg ((sr_chp N ob.toNatClampNeg ((sr_chR N R ob.toNatClampNeg C).1) 0 1).1) 1) 1) li us ((sr_chR N R ob.toNatClampNeg C).2.2.2) (sl + 1) (go + (ob - ((sr_chR N R ob.toNatClampNeg C).2.2.2))) gi ((sr_chR N R ob.toNatClampNeg C).2.1) ((sr_chR N R ob.toNatClampNeg C).2.2.1) ((sr_chR N R ob.toNatClampNeg C).2.2.2)) := hD
  refine lv_aload_n hx hb dX_slide_57 rfl (lv_at hl 1 rfl) ?_
  refine lv_iload_n hx hb dX_slide_58 rfl (lv_at hl 0 rfl) ?_
  refine va_put (D := D) (ci := 0) (v := .int ((sr_chp N ob.toNatClampNeg ((sr_chR N R ob.toNatClampNeg C).1) 0 1).2)) (ty := .int) (C := RX) (T := TX) (N := 11) hx hb hbg bg_X tX tX_ok nX hown hK hP hD hS 0 rfl rfl 3 (by decide) (hbg _ bw_54) (fun _ h9 => h9) rfl (by decide +kernel) rfl rfl (Nat.le_of_ble_eq_true rfl) dX_slide_59 (fun H locs hP hD hS => ?_)
  have hP : va_P D vwC (wX h rr cc cI N (sr_rr N ((sr_chp N ob.toNatClampNeg ((sr_chR N R ob.toNatClampNeg C).1) 0 1).1) 16 0 R) (sr_mv N ob.toNatClampNeg (sr_rfs N ob.toNatClampNeg ((sr_chp N ob.toNatClampNeg ((sr_chR N R ob.toNatClampNeg C).1) 0 1).1) 1) 1) li ((sr_chp N ob.toNatClampNeg ((sr_chR N R ob.toNatClampNeg C).1) 0 1).2) ((sr_chR N R ob.toNatClampNeg C).2.2.2) (sl + 1) (go + (ob - ((sr_chR N R ob.toNatClampNeg C).2.2.2))) gi ((sr_chR N R ob.toNatClampNeg C).2.1) ((sr_chR N R ob.toNatClampNeg C).2.2.1) ((sr_chR N R ob.toNatClampNeg C).2.2.2)) H := hP
  have hD : va_D A (wX h rr cc cI N (sr_rr N ((sr_chp N ob.toNatClampNeg ((sr_chR N R ob.toNatClampNeg C).1) 0 1).1) 16 0 R) (sr_mv N ob.toNatClampNeg (sr_rfs N ob.toNatClampNeg ((sr_chp N ob.toNatClampNeg ((sr_chR N R ob.toNatClampNeg C).1) 0 1).1) 1) 1) li ((sr_chp N ob.toNatClampNeg ((sr_chR N R ob.toNatClampNeg C).1) 0 1).2) ((sr_chR N R ob.toNatClampNeg C).2.2.2) (sl + 1) (go + (ob - ((sr_chR N R ob.toNatClampNeg C).2.2.2))) gi ((sr_chR N R ob.toNatClampNeg C).2.1) ((sr_chR N R ob.toNatClampNeg C).2.2.1) ((sr_chR N R ob.toNatClampNeg C).2.2.2)) := hD
  refine lv_aload_n hx hb dX_slide_62 rfl (lv_at hl 1 rfl) ?_
  refine va_get (D := D) (ci := 0) (v := .int ((sr_chp N ob.toNatClampNeg ((sr_chR N R ob.toNatClampNeg C).1) 0 1).2)) (C := RX) (T := TX) (N := 11) hx hb hbg bg_X hown hK hP 0 rfl rfl 3 (by decide) (hbg _ bw_54) (fun _ h9 => h9) rfl dX_slide_63 ?_
  refine W.widen (k := 0) (n := 0) (Nat.le_of_ble_eq_true rfl) (Nat.le_of_ble_eq_true rfl) ?_
  exact W.iret (v := (sr_chp N ob.toNatClampNeg ((sr_chR N R ob.toNatClampNeg C).1) 0 1).2) hx hb hr (fun t ht hW => ⟨⟨(sr_chp N ob.toNatClampNeg ((sr_chR N R ob.toNatClampNeg C).1) 0 1).2, (), rfl, rfl, by rw [ht]; exact hP, va_K.moved hW.alike hK, hD⟩, hS.F ht⟩) hS.2.2 dX_slide_66

end XM
end
section
/-! CONTRACTS OF SlideRow: its calls that may throw: what each does where it returns, and that it throws where it must (rows laid by wip/gen) -/

set_option maxHeartbeats 4000000 in
set_option maxRecDepth 100000 in
theorem ct_X_needRoot_k (l : Launch) (D : va_G) (h rr cc : Nat) (cI : ClassId) (N : Nat) (R C : Nat → Int32) (li us ob sl go gi fr la re : Int32) (sz : Nat) (x : Int32) (hN : N < 2 ^ 31) (h1 : ¬ x < 0) (h2 : x < nI 16) : sy_Mv l yX_needRoot (Cond.code yX_needRoot bX_needRoot 2 none :: sr_big) { frames := 6, cells := 0, slots := 0, locals := 90 } D vwC [(cI, .int)] [.ref h, .int x] (wX h rr cc cI N R C li us ob sl go gi fr la re) sz (wX h rr cc cI N R C li us ob sl go gi fr la re) 0 0 := by
  refine Met.ofW (cc := bX_needRoot) (maxL := 2) (ret := none) (by decide) rfl ?_
  intro p e s m args below meth c s₁ B hml hv
  obtain ⟨rfl, hsz, hP, hK, hD0⟩ := hv
  have hx := B.exec
  have hb := B.bytes
  have hr := B.returns
  have hbg : ∀ w ∈ sr_big, w.before _ s = true := fun w h => atoms_spec (ws := Cond.code yX_needRoot bX_needRoot 2 none :: sr_big) B.pre w (List.mem_cons_of_mem _ h)
  have hown : s.vm.findClass RX = some m.cls := findClass_of_methodNamed B.named
  have hlocks := B.notSynchronized
  subst hsz
  have hD := hD0.self (sz := s.heap.size)
  generalize hAe : va_A (wX h rr cc cI N R C li us ob sl go gi fr la re) s.heap.size = A at *
  have hA : ∀ q : Nat, s.heap.size ≤ q → A q := fun q h => by rw [← hAe]; exact Or.inr h
  have hS : va_S A s.heap s.heap [] := va_S.rf
  have hl := lv_entry ([.ref h, .int x]) (n := 2) (Nat.le_of_ble_eq_true rfl)
  rw [lg_entry_eq]
  generalize (lg_sl ([.ref h, .int x]) ++ List.replicate (2 - (lg_sl ([.ref h, .int x])).length) Slot.unset).toArray = ls at hl ⊢
  have hl : lv_has ls 2 [(0, .ref h), (1, .int x)] := hl
  refine lv_iload_n hx hb dX_needRoot_0 rfl (lv_at hl 1 rfl) ?_
  refine lv_if_lt (tgt := 13) hx hb dX_needRoot_1 (by decide) (fun z => absurd z h1) (fun _ => ?_)
  refine lv_iload_n hx hb dX_needRoot_4 rfl (lv_at hl 1 rfl) ?_
  refine lv_aload_n hx hb dX_needRoot_5 rfl (lv_at hl 0 rfl) ?_
  refine va_get (D := D) (ci := 0) (v := .ref rr) (C := RX) (T := TX) (N := 11) hx hb hbg bg_X hown hK hP 0 rfl rfl 0 (by decide) (hbg _ bw_51) (fun _ h9 => h9) rfl dX_needRoot_6 ?_
  refine va_alen hx hb hK hP 1 0 rfl rfl (v := nI 16) rfl dX_needRoot_9 ?_
  refine lv_icmp_lt (tgt := 23) hx hb dX_needRoot_10 (by decide) (fun _ => ?_) (fun z => absurd h2 z)
  refine W.widen (k := 0) (n := 0) (Nat.le_of_ble_eq_true rfl) (Nat.le_of_ble_eq_true rfl) ?_
  exact W.vret hx hb hr (fun t ht hW => ⟨⟨(), rfl, trivial, by rw [ht]; exact hP, va_K.moved hW.alike hK, hD⟩, hS.F ht⟩) hS.2.2 dX_needRoot_23

set_option maxHeartbeats 4000000 in
set_option maxRecDepth 100000 in
theorem ct_X_needRoot_b (l : Launch) (D : va_G) (h rr cc : Nat) (cI : ClassId) (N : Nat) (R C : Nat → Int32) (li us ob sl go gi fr la re : Int32) (sz : Nat) (x : Int32) (hN : N < 2 ^ 31) (hst : l.stackTraces = false) (hg : x < 0 ∨ ¬ x < nI 16) : sy_Mx l yX_needRoot (Cond.code yX_needRoot bX_needRoot 2 none :: sr_big) { frames := 6, cells := 1, slots := 6, locals := 90 } D vwC [(cI, .int)] [.ref h, .int x] (wX h rr cc cI N R C li us ob sl go gi fr la re) sz sx_NSE 1 6 := by
  refine vx_ofW (cc := bX_needRoot) (maxL := 2) (ret := none) (by decide) rfl ?_
  intro p e s m args below meth c s₁ B hml htab hv
  obtain ⟨rfl, ⟨hsz, hP, hK, hD0⟩, hG⟩ := hv
  have hx := B.exec
  have hb := B.bytes
  have hr := B.returns
  have hbg : ∀ w ∈ sr_big, w.before _ s = true := fun w h => atoms_spec (ws := Cond.code yX_needRoot bX_needRoot 2 none :: sr_big) B.pre w (List.mem_cons_of_mem _ h)
  have hown : s.vm.findClass RX = some m.cls := findClass_of_methodNamed B.named
  have hlocks := B.notSynchronized
  subst hsz
  have hD := hD0.self (sz := s.heap.size)
  generalize hAe : va_A (wX h rr cc cI N R C li us ob sl go gi fr la re) s.heap.size = A at *
  have hA : ∀ q : Nat, s.heap.size ≤ q → A q := fun q h => by rw [← hAe]; exact Or.inr h
  have hS : va_S A s.heap s.heap [] := va_S.rf
  have hl := lv_entry ([.ref h, .int x]) (n := 2) (Nat.le_of_ble_eq_true rfl)
  rw [lg_entry_eq]
  generalize (lg_sl ([.ref h, .int x]) ++ List.replicate (2 - (lg_sl ([.ref h, .int x])).length) Slot.unset).toArray = ls at hl ⊢
  have hl : lv_has ls 2 [(0, .ref h), (1, .int x)] := hl
  refine lv_iload_n hx hb dX_needRoot_0 rfl (lv_at hl 1 rfl) ?_
  refine lv_if_lt (tgt := 13) hx hb dX_needRoot_1 (by decide) (fun c_1 => ?_) (fun c_1 => ?_)
  · exact sy_throw (E := sx_NSE) (text := "no such root") (Or.inr ⟨rfl, rfl, rfl, rfl, rfl⟩) hx hb hst hown hbg (by decide) hG hP hK hD hS (hl.1.trans hml.symm) dX_needRoot_13 dX_needRoot_16 dX_needRoot_17 dX_needRoot_19 dX_needRoot_22 htab (Nat.le_of_ble_eq_true rfl) (Nat.le_of_ble_eq_true rfl) (Nat.le_of_ble_eq_true rfl) (Nat.le_of_ble_eq_true rfl) hlocks (Nat.le_of_ble_eq_true rfl) (Nat.le_of_ble_eq_true rfl)
  · refine lv_iload_n hx hb dX_needRoot_4 rfl (lv_at hl 1 rfl) ?_
    refine lv_aload_n hx hb dX_needRoot_5 rfl (lv_at hl 0 rfl) ?_
    refine va_get (D := D) (ci := 0) (v := .ref rr) (C := RX) (T := TX) (N := 11) hx hb hbg bg_X hown hK hP 0 rfl rfl 0 (by decide) (hbg _ bw_51) (fun _ h9 => h9) rfl dX_needRoot_6 ?_
    refine va_alen hx hb hK hP 1 0 rfl rfl (v := nI 16) rfl dX_needRoot_9 ?_
    refine lv_icmp_lt (tgt := 23) hx hb dX_needRoot_10 (by decide) (fun z => absurd z (hg.resolve_left c_1)) (fun _ => ?_)
    exact sy_throw (E := sx_NSE) (text := "no such root") (Or.inr ⟨rfl, rfl, rfl, rfl, rfl⟩) hx hb hst hown hbg (by decide) hG hP hK hD hS (hl.1.trans hml.symm) dX_needRoot_13 dX_needRoot_16 dX_needRoot_17 dX_needRoot_19 dX_needRoot_22 htab (Nat.le_of_ble_eq_true rfl) (Nat.le_of_ble_eq_true rfl) (Nat.le_of_ble_eq_true rfl) (Nat.le_of_ble_eq_true rfl) hlocks (Nat.le_of_ble_eq_true rfl) (Nat.le_of_ble_eq_true rfl)

set_option maxHeartbeats 4000000 in
set_option maxRecDepth 100000 in
theorem ct_X_needObject_k (l : Launch) (D : va_G) (h rr cc : Nat) (cI : ClassId) (N : Nat) (R C : Nat → Int32) (li us ob sl go gi fr la re : Int32) (sz : Nat) (a : Int32) (hN : N < 2 ^ 31) (hg : sr_isO N C a ob.toNatClampNeg 1 = true) : sy_Mv l yX_needObject (Cond.code yX_needObject bX_needObject 2 none :: sr_big) { frames := 6, cells := 0, slots := 0, locals := 90 } D vwC [(cI, .int)] [.ref h, .int a] (wX h rr cc cI N R C li us ob sl go gi fr la re) sz (wX h rr cc cI N R C li us ob sl go gi fr la re) 0 0 := by
  refine Met.ofW (cc := bX_needObject) (maxL := 2) (ret := none) (by decide) rfl ?_
  intro p e s m args below meth c s₁ B hml hv
  obtain ⟨rfl, hsz, hP, hK, hD0⟩ := hv
  have hx := B.exec
  have hb := B.bytes
  have hr := B.returns
  have hbg : ∀ w ∈ sr_big, w.before _ s = true := fun w h => atoms_spec (ws := Cond.code yX_needObject bX_needObject 2 none :: sr_big) B.pre w (List.mem_cons_of_mem _ h)
  have hown : s.vm.findClass RX = some m.cls := findClass_of_methodNamed B.named
  have hlocks := B.notSynchronized
  subst hsz
  have hD := hD0.self (sz := s.heap.size)
  generalize hAe : va_A (wX h rr cc cI N R C li us ob sl go gi fr la re) s.heap.size = A at *
  have hA : ∀ q : Nat, s.heap.size ≤ q → A q := fun q h => by rw [← hAe]; exact Or.inr h
  have hS : va_S A s.heap s.heap [] := va_S.rf
  have hl := lv_entry ([.ref h, .int a]) (n := 2) (Nat.le_of_ble_eq_true rfl)
  rw [lg_entry_eq]
  generalize (lg_sl ([.ref h, .int a]) ++ List.replicate (2 - (lg_sl ([.ref h, .int a])).length) Slot.unset).toArray = ls at hl ⊢
  have hl : lv_has ls 2 [(0, .ref h), (1, .int a)] := hl
  refine lv_aload_n hx hb dX_needObject_0 rfl (lv_at hl 0 rfl) ?_
  refine lv_iload_n hx hb dX_needObject_1 rfl (lv_at hl 1 rfl) ?_
  refine sy_cVi (wc := wX h rr cc cI N R C li us ob sl go gi fr la re) (wr := []) (w1 := wX h rr cc cI N R C li us ob sl go gi fr la re) (ci := 0) (q0 := 0) (As := [.int a]) (rest := []) ⟨hx, hb, hml, hown, hbg⟩ (ct_X_isObject l D h rr cc cI N R C li us ob sl go gi fr la re s.heap.size a hN) (cwV 1 hbg (bg_V bw_216 bw_217 bw_19 bw_34 bw_218) rfl rfl rfl (by decide +kernel) ⟨Nat.le_of_ble_eq_true rfl, Nat.le_of_ble_eq_true rfl⟩) hK [0] rfl hP hD hS hA [0, 1, 2] [] rfl rfl rfl rfl (by decide) rfl rfl rfl hl.1 rfl (Nat.le_of_ble_eq_true rfl) dX_needObject_2 ⟨Nat.le_of_ble_eq_true rfl, Nat.le_of_ble_eq_true rfl⟩ (fun H locs hP hD hS => ?_)
  have hP : va_P D vwC (wX h rr cc cI N R C li us ob sl go gi fr la re) H := hP
  have hD : va_D A (wX h rr cc cI N R C li us ob sl go gi fr la re) := hD
  refine lv_if_ne (tgt := 18) hx hb dX_needObject_5 (by decide) (fun _ => ?_) (fun z => absurd z (by rw [if_pos hg]; decide))
  refine W.widen (k := 0) (n := 0) (Nat.le_of_ble_eq_true rfl) (Nat.le_of_ble_eq_true rfl) ?_
  exact W.vret hx hb hr (fun t ht hW => ⟨⟨(), rfl, trivial, by rw [ht]; exact hP, va_K.moved hW.alike hK, hD⟩, hS.F ht⟩) hS.2.2 dX_needObject_18

set_option maxHeartbeats 4000000 in
set_option maxRecDepth 100000 in
theorem ct_X_needObject_b (l : Launch) (D : va_G) (h rr cc : Nat) (cI : ClassId) (N : Nat) (R C : Nat → Int32) (li us ob sl go gi fr la re : Int32) (sz : Nat) (a : Int32) (hN : N < 2 ^ 31) (hst : l.stackTraces = false) (hg : sr_isO N C a ob.toNatClampNeg 1 = false) : sy_Mx l yX_needObject (Cond.code yX_needObject bX_needObject 2 none :: sr_big) { frames := 6, cells := 1, slots := 6, locals := 90 } D vwC [(cI, .int)] [.ref h, .int a] (wX h rr cc cI N R C li us ob sl go gi fr la re) sz sx_NSE 1 6 := by
  refine vx_ofW (cc := bX_needObject) (maxL := 2) (ret := none) (by decide) rfl ?_
  intro p e s m args below meth c s₁ B hml htab hv
  obtain ⟨rfl, ⟨hsz, hP, hK, hD0⟩, hG⟩ := hv
  have hx := B.exec
  have hb := B.bytes
  have hr := B.returns
  have hbg : ∀ w ∈ sr_big, w.before _ s = true := fun w h => atoms_spec (ws := Cond.code yX_needObject bX_needObject 2 none :: sr_big) B.pre w (List.mem_cons_of_mem _ h)
  have hown : s.vm.findClass RX = some m.cls := findClass_of_methodNamed B.named
  have hlocks := B.notSynchronized
  subst hsz
  have hD := hD0.self (sz := s.heap.size)
  generalize hAe : va_A (wX h rr cc cI N R C li us ob sl go gi fr la re) s.heap.size = A at *
  have hA : ∀ q : Nat, s.heap.size ≤ q → A q := fun q h => by rw [← hAe]; exact Or.inr h
  have hS : va_S A s.heap s.heap [] := va_S.rf
  have hl := lv_entry ([.ref h, .int a]) (n := 2) (Nat.le_of_ble_eq_true rfl)
  rw [lg_entry_eq]
  generalize (lg_sl ([.ref h, .int a]) ++ List.replicate (2 - (lg_sl ([.ref h, .int a])).length) Slot.unset).toArray = ls at hl ⊢
  have hl : lv_has ls 2 [(0, .ref h), (1, .int a)] := hl
  refine lv_aload_n hx hb dX_needObject_0 rfl (lv_at hl 0 rfl) ?_
  refine lv_iload_n hx hb dX_needObject_1 rfl (lv_at hl 1 rfl) ?_
  refine sy_cVi (wc := wX h rr cc cI N R C li us ob sl go gi fr la re) (wr := []) (w1 := wX h rr cc cI N R C li us ob sl go gi fr la re) (ci := 0) (q0 := 0) (As := [.int a]) (rest := []) ⟨hx, hb, hml, hown, hbg⟩ (ct_X_isObject l D h rr cc cI N R C li us ob sl go gi fr la re s.heap.size a hN) (cwV 1 hbg (bg_V bw_216 bw_217 bw_19 bw_34 bw_218) rfl rfl rfl (by decide +kernel) ⟨Nat.le_of_ble_eq_true rfl, Nat.le_of_ble_eq_true rfl⟩) hK [0] rfl hP hD hS hA [0, 1, 2] [] rfl rfl rfl rfl (by decide) rfl rfl rfl hl.1 rfl (Nat.le_of_ble_eq_true rfl) dX_needObject_2 ⟨Nat.le_of_ble_eq_true rfl, Nat.le_of_ble_eq_true rfl⟩ (fun H locs hP hD hS => ?_)
  have hP : va_P D vwC (wX h rr cc cI N R C li us ob sl go gi fr la re) H := hP
  have hD : va_D A (wX h rr cc cI N R C li us ob sl go gi fr la re) := hD
  refine lv_if_ne (tgt := 18) hx hb dX_needObject_5 (by decide) (fun z => absurd (by rw [hg]; rfl) z) (fun _ => ?_)
  exact sy_throw (E := sx_NSE) (text := "no such object") (Or.inr ⟨rfl, rfl, rfl, rfl, rfl⟩) hx hb hst hown hbg (by decide) hG hP hK hD hS (hl.1.trans hml.symm) dX_needObject_8 dX_needObject_11 dX_needObject_12 dX_needObject_14 dX_needObject_17 htab (Nat.le_of_ble_eq_true rfl) (Nat.le_of_ble_eq_true rfl) (Nat.le_of_ble_eq_true rfl) (Nat.le_of_ble_eq_true rfl) hlocks (Nat.le_of_ble_eq_true rfl) (Nat.le_of_ble_eq_true rfl)

set_option maxHeartbeats 4000000 in
set_option maxRecDepth 100000 in
theorem ct_X_needObjectOrNothing_k (l : Launch) (D : va_G) (h rr cc : Nat) (cI : ClassId) (N : Nat) (R C : Nat → Int32) (li us ob sl go gi fr la re : Int32) (sz : Nat) (a : Int32) (hN : N < 2 ^ 31) (hg : a = 0 ∨ sr_isO N C a ob.toNatClampNeg 1 = true) : sy_Mv l yX_needObjectOrNothing (Cond.code yX_needObjectOrNothing bX_needObjectOrNothing 2 none :: sr_big) { frames := 7, cells := 0, slots := 0, locals := 111 } D vwC [(cI, .int)] [.ref h, .int a] (wX h rr cc cI N R C li us ob sl go gi fr la re) sz (wX h rr cc cI N R C li us ob sl go gi fr la re) 0 0 := by
  refine Met.ofW (cc := bX_needObjectOrNothing) (maxL := 2) (ret := none) (by decide) rfl ?_
  intro p e s m args below meth c s₁ B hml hv
  obtain ⟨rfl, hsz, hP, hK, hD0⟩ := hv
  have hx := B.exec
  have hb := B.bytes
  have hr := B.returns
  have hbg : ∀ w ∈ sr_big, w.before _ s = true := fun w h => atoms_spec (ws := Cond.code yX_needObjectOrNothing bX_needObjectOrNothing 2 none :: sr_big) B.pre w (List.mem_cons_of_mem _ h)
  have hown : s.vm.findClass RX = some m.cls := findClass_of_methodNamed B.named
  have hlocks := B.notSynchronized
  subst hsz
  have hD := hD0.self (sz := s.heap.size)
  generalize hAe : va_A (wX h rr cc cI N R C li us ob sl go gi fr la re) s.heap.size = A at *
  have hA : ∀ q : Nat, s.heap.size ≤ q → A q := fun q h => by rw [← hAe]; exact Or.inr h
  have hS : va_S A s.heap s.heap [] := va_S.rf
  have hl := lv_entry ([.ref h, .int a]) (n := 2) (Nat.le_of_ble_eq_true rfl)
  rw [lg_entry_eq]
  generalize (lg_sl ([.ref h, .int a]) ++ List.replicate (2 - (lg_sl ([.ref h, .int a])).length) Slot.unset).toArray = ls at hl ⊢
  have hl : lv_has ls 2 [(0, .ref h), (1, .int a)] := hl
  refine lv_iload_n hx hb dX_needObjectOrNothing_0 rfl (lv_at hl 1 rfl) ?_
  refine lv_if_eq (tgt := 9) hx hb dX_needObjectOrNothing_1 (by decide) (fun c_1 => ?_) (fun c_1 => ?_)
  · refine W.widen (k := 0) (n := 0) (Nat.le_of_ble_eq_true rfl) (Nat.le_of_ble_eq_true rfl) ?_
    exact W.vret hx hb hr (fun t ht hW => ⟨⟨(), rfl, trivial, by rw [ht]; exact hP, va_K.moved hW.alike hK, hD⟩, hS.F ht⟩) hS.2.2 dX_needObjectOrNothing_9
  · refine lv_aload_n hx hb dX_needObjectOrNothing_4 rfl (lv_at hl 0 rfl) ?_
    refine lv_iload_n hx hb dX_needObjectOrNothing_5 rfl (lv_at hl 1 rfl) ?_
    refine sy_cVv (wc := wX h rr cc cI N R C li us ob sl go gi fr la re) (wr := []) (w1 := wX h rr cc cI N R C li us ob sl go gi fr la re) (ci := 0) (q0 := 0) (As := [.int a]) (rest := []) ⟨hx, hb, hml, hown, hbg⟩ (ct_X_needObject_k l D h rr cc cI N R C li us ob sl go gi fr la re s.heap.size a hN (hg.resolve_left c_1)) (cwV 1 hbg (bg_V bw_213 bw_214 bw_18 bw_34 bw_215) rfl rfl rfl (by decide +kernel) ⟨Nat.le_of_ble_eq_true rfl, Nat.le_of_ble_eq_true rfl⟩) hK [0] rfl hP hD hS hA [0, 1, 2] [] rfl rfl rfl rfl (by decide) rfl rfl rfl hl.1 rfl (Nat.le_of_ble_eq_true rfl) dX_needObjectOrNothing_6 ⟨Nat.le_of_ble_eq_true rfl, Nat.le_of_ble_eq_true rfl⟩ (fun H locs hP hD hS => ?_)
    have hP : va_P D vwC (wX h rr cc cI N R C li us ob sl go gi fr la re) H := hP
    have hD : va_D A (wX h rr cc cI N R C li us ob sl go gi fr la re) := hD
    refine W.widen (k := 0) (n := 0) (Nat.le_of_ble_eq_true rfl) (Nat.le_of_ble_eq_true rfl) ?_
    exact W.vret hx hb hr (fun t ht hW => ⟨⟨(), rfl, trivial, by rw [ht]; exact hP, va_K.moved hW.alike hK, hD⟩, hS.F ht⟩) hS.2.2 dX_needObjectOrNothing_9

set_option maxHeartbeats 4000000 in
set_option maxRecDepth 100000 in
theorem ct_X_needObjectOrNothing_b (l : Launch) (D : va_G) (h rr cc : Nat) (cI : ClassId) (N : Nat) (R C : Nat → Int32) (li us ob sl go gi fr la re : Int32) (sz : Nat) (a : Int32) (hN : N < 2 ^ 31) (hst : l.stackTraces = false) (h0 : ¬ a = 0) (hg : sr_isO N C a ob.toNatClampNeg 1 = false) : sy_Mx l yX_needObjectOrNothing (Cond.code yX_needObjectOrNothing bX_needObjectOrNothing 2 none :: sr_big) { frames := 7, cells := 1, slots := 6, locals := 111 } D vwC [(cI, .int)] [.ref h, .int a] (wX h rr cc cI N R C li us ob sl go gi fr la re) sz sx_NSE 1 6 := by
  refine vx_ofW (cc := bX_needObjectOrNothing) (maxL := 2) (ret := none) (by decide) rfl ?_
  intro p e s m args below meth c s₁ B hml htab hv
  obtain ⟨rfl, ⟨hsz, hP, hK, hD0⟩, hG⟩ := hv
  have hx := B.exec
  have hb := B.bytes
  have hr := B.returns
  have hbg : ∀ w ∈ sr_big, w.before _ s = true := fun w h => atoms_spec (ws := Cond.code yX_needObjectOrNothing bX_needObjectOrNothing 2 none :: sr_big) B.pre w (List.mem_cons_of_mem _ h)
  have hown : s.vm.findClass RX = some m.cls := findClass_of_methodNamed B.named
  have hlocks := B.notSynchronized
  subst hsz
  have hD := hD0.self (sz := s.heap.size)
  generalize hAe : va_A (wX h rr cc cI N R C li us ob sl go gi fr la re) s.heap.size = A at *
  have hA : ∀ q : Nat, s.heap.size ≤ q → A q := fun q h => by rw [← hAe]; exact Or.inr h
  have hS : va_S A s.heap s.heap [] := va_S.rf
  have hl := lv_entry ([.ref h, .int a]) (n := 2) (Nat.le_of_ble_eq_true rfl)
  rw [lg_entry_eq]
  generalize (lg_sl ([.ref h, .int a]) ++ List.replicate (2 - (lg_sl ([.ref h, .int a])).length) Slot.unset).toArray = ls at hl ⊢
  have hl : lv_has ls 2 [(0, .ref h), (1, .int a)] := hl
  refine lv_iload_n hx hb dX_needObjectOrNothing_0 rfl (lv_at hl 1 rfl) ?_
  refine lv_if_eq (tgt := 9) hx hb dX_needObjectOrNothing_1 (by decide) (fun z => absurd z h0) (fun _ => ?_)
  refine lv_aload_n hx hb dX_needObjectOrNothing_4 rfl (lv_at hl 0 rfl) ?_
  refine lv_iload_n hx hb dX_needObjectOrNothing_5 rfl (lv_at hl 1 rfl) ?_
  refine sy_cVx (wc := wX h rr cc cI N R C li us ob sl go gi fr la re) (wr := []) (ci := 0) (q0 := 0) (As := [.int a]) (rest := []) ⟨hx, hb, hml, hown, hbg⟩ (ct_X_needObject_b l D h rr cc cI N R C li us ob sl go gi fr la re s.heap.size a hN hst hg) (cwV 1 hbg (bg_V bw_213 bw_214 bw_18 bw_34 bw_215) rfl rfl rfl (by decide +kernel) ⟨Nat.le_of_ble_eq_true rfl, Nat.le_of_ble_eq_true rfl⟩) hK [0] rfl hP hD hS hA hG [0, 1, 2] [] rfl rfl rfl rfl (by decide) rfl rfl rfl hl.1 rfl (Nat.le_of_ble_eq_true rfl) dX_needObjectOrNothing_6 ⟨Nat.le_of_ble_eq_true rfl, Nat.le_of_ble_eq_true rfl⟩ (fun q ce H locs hP hD hS hcell hcv hcl => ?_)
  exact sy_outx htab hlocks hP hK hD hS hcell hcv hcl (Nat.le_of_ble_eq_true rfl) (Nat.le_of_ble_eq_true rfl)

set_option maxHeartbeats 4000000 in
set_option maxRecDepth 100000 in
theorem ct_X_fieldCell_k (l : Launch) (D : va_G) (h rr cc : Nat) (cI : ClassId) (N : Nat) (R C : Nat → Int32) (li us ob sl go gi fr la re : Int32) (sz : Nat) (a f : Int32) (hN : N < 2 ^ 31) (hg : sr_isO N C a ob.toNatClampNeg 1 = true) (h1 : ¬ f < 0) (h2 : f < sr_fi N C a) : sy_Mi l yX_fieldCell (Cond.code yX_fieldCell bX_fieldCell 3 (some .int) :: sr_big) { frames := 7, cells := 0, slots := 0, locals := 111 } D vwC [(cI, .int)] [.ref h, .int a, .int f] (wX h rr cc cI N R C li us ob sl go gi fr la re) sz (a + 3 + f) (wX h rr cc cI N R C li us ob sl go gi fr la re) 0 0 := by
  refine Met.ofW (cc := bX_fieldCell) (maxL := 3) (ret := (some .int)) (by decide) rfl ?_
  intro p e s m args below meth c s₁ B hml hv
  obtain ⟨rfl, hsz, hP, hK, hD0⟩ := hv
  have hx := B.exec
  have hb := B.bytes
  have hr := B.returns
  have hbg : ∀ w ∈ sr_big, w.before _ s = true := fun w h => atoms_spec (ws := Cond.code yX_fieldCell bX_fieldCell 3 (some .int) :: sr_big) B.pre w (List.mem_cons_of_mem _ h)
  have hown : s.vm.findClass RX = some m.cls := findClass_of_methodNamed B.named
  have hlocks := B.notSynchronized
  subst hsz
  have hD := hD0.self (sz := s.heap.size)
  generalize hAe : va_A (wX h rr cc cI N R C li us ob sl go gi fr la re) s.heap.size = A at *
  have hA : ∀ q : Nat, s.heap.size ≤ q → A q := fun q h => by rw [← hAe]; exact Or.inr h
  have hS : va_S A s.heap s.heap [] := va_S.rf
  have hl := lv_entry ([.ref h, .int a, .int f]) (n := 3) (Nat.le_of_ble_eq_true rfl)
  rw [lg_entry_eq]
  generalize (lg_sl ([.ref h, .int a, .int f]) ++ List.replicate (3 - (lg_sl ([.ref h, .int a, .int f])).length) Slot.unset).toArray = ls at hl ⊢
  have hl : lv_has ls 3 [(0, .ref h), (1, .int a), (2, .int f)] := hl
  refine lv_aload_n hx hb dX_fieldCell_0 rfl (lv_at hl 0 rfl) ?_
  refine lv_iload_n hx hb dX_fieldCell_1 rfl (lv_at hl 1 rfl) ?_
  refine sy_cVv (wc := wX h rr cc cI N R C li us ob sl go gi fr la re) (wr := []) (w1 := wX h rr cc cI N R C li us ob sl go gi fr la re) (ci := 0) (q0 := 0) (As := [.int a]) (rest := []) ⟨hx, hb, hml, hown, hbg⟩ (ct_X_needObject_k l D h rr cc cI N R C li us ob sl go gi fr la re s.heap.size a hN hg) (cwV 1 hbg (bg_V bw_213 bw_214 bw_18 bw_34 bw_215) rfl rfl rfl (by decide +kernel) ⟨Nat.le_of_ble_eq_true rfl, Nat.le_of_ble_eq_true rfl⟩) hK [0] rfl hP hD hS hA [0, 1, 2] [] rfl rfl rfl rfl (by decide) rfl rfl rfl hl.1 rfl (Nat.le_of_ble_eq_true rfl) dX_fieldCell_2 ⟨Nat.le_of_ble_eq_true rfl, Nat.le_of_ble_eq_true rfl⟩ (fun H locs hP hD hS => ?_)
  have hP : va_P D vwC (wX h rr cc cI N R C li us ob sl go gi fr la re) H := hP
  have hD : va_D A (wX h rr cc cI N R C li us ob sl go gi fr la re) := hD
  refine lv_iload_n hx hb dX_fieldCell_5 rfl (lv_at hl 2 rfl) ?_
  refine lv_if_lt (tgt := 18) hx hb dX_fieldCell_6 (by decide) (fun z => absurd z h1) (fun _ => ?_)
  refine lv_iload_n hx hb dX_fieldCell_9 rfl (lv_at hl 2 rfl) ?_
  refine lv_aload_n hx hb dX_fieldCell_10 rfl (lv_at hl 0 rfl) ?_
  refine lv_iload_n hx hb dX_fieldCell_11 rfl (lv_at hl 1 rfl) ?_
  refine sy_cVi (wc := wX h rr cc cI N R C li us ob sl go gi fr la re) (wr := []) (w1 := wX h rr cc cI N R C li us ob sl go gi fr la re) (ci := 0) (q0 := 0) (As := [.int a]) (rest := [.int f]) ⟨hx, hb, hml, hown, hbg⟩ (ct_X_fieldsOf l D h rr cc cI N R C li us ob sl go gi fr la re H.size a hN) (cwV 1 hbg (bg_V bw_99 bw_100 bw_7 bw_34 bw_101) rfl rfl rfl (by decide +kernel) ⟨Nat.le_of_ble_eq_true rfl, Nat.le_of_ble_eq_true rfl⟩) hK [0] rfl hP hD hS hA [0, 1, 2] [] rfl rfl rfl rfl (by decide) rfl rfl rfl hl.1 rfl (Nat.le_of_ble_eq_true rfl) dX_fieldCell_12 ⟨Nat.le_of_ble_eq_true rfl, Nat.le_of_ble_eq_true rfl⟩ (fun H locs hP hD hS => ?_)
  have hP : va_P D vwC (wX h rr cc cI N R C li us ob sl go gi fr la re) H := hP
  have hD : va_D A (wX h rr cc cI N R C li us ob sl go gi fr la re) := hD
  refine lv_icmp_lt (tgt := 28) hx hb dX_fieldCell_15 (by decide) (fun _ => ?_) (fun z => absurd h2 z)
  refine lv_iload_n hx hb dX_fieldCell_28 rfl (lv_at hl 1 rfl) ?_
  refine lv_iconst (v := 3) hx hb dX_fieldCell_29 (by decide) ?_
  refine lv_iadd hx hb dX_fieldCell_30 ?_
  refine lv_iload_n hx hb dX_fieldCell_31 rfl (lv_at hl 2 rfl) ?_
  refine lv_iadd hx hb dX_fieldCell_32 ?_
  refine W.widen (k := 0) (n := 0) (Nat.le_of_ble_eq_true rfl) (Nat.le_of_ble_eq_true rfl) ?_
  exact W.iret (v := (a + 3) + f) hx hb hr (fun t ht hW => ⟨⟨(a + 3) + f, (), rfl, rfl, by rw [ht]; exact hP, va_K.moved hW.alike hK, hD⟩, hS.F ht⟩) hS.2.2 dX_fieldCell_33

set_option maxHeartbeats 4000000 in
set_option maxRecDepth 100000 in
theorem ct_X_fieldCell_b1 (l : Launch) (D : va_G) (h rr cc : Nat) (cI : ClassId) (N : Nat) (R C : Nat → Int32) (li us ob sl go gi fr la re : Int32) (sz : Nat) (a f : Int32) (hN : N < 2 ^ 31) (hst : l.stackTraces = false) (hg : sr_isO N C a ob.toNatClampNeg 1 = false) : sy_Mx l yX_fieldCell (Cond.code yX_fieldCell bX_fieldCell 3 (some .int) :: sr_big) { frames := 7, cells := 1, slots := 6, locals := 111 } D vwC [(cI, .int)] [.ref h, .int a, .int f] (wX h rr cc cI N R C li us ob sl go gi fr la re) sz sx_NSE 1 6 := by
  refine vx_ofW (cc := bX_fieldCell) (maxL := 3) (ret := (some .int)) (by decide) rfl ?_
  intro p e s m args below meth c s₁ B hml htab hv
  obtain ⟨rfl, ⟨hsz, hP, hK, hD0⟩, hG⟩ := hv
  have hx := B.exec
  have hb := B.bytes
  have hr := B.returns
  have hbg : ∀ w ∈ sr_big, w.before _ s = true := fun w h => atoms_spec (ws := Cond.code yX_fieldCell bX_fieldCell 3 (some .int) :: sr_big) B.pre w (List.mem_cons_of_mem _ h)
  have hown : s.vm.findClass RX = some m.cls := findClass_of_methodNamed B.named
  have hlocks := B.notSynchronized
  subst hsz
  have hD := hD0.self (sz := s.heap.size)
  generalize hAe : va_A (wX h rr cc cI N R C li us ob sl go gi fr la re) s.heap.size = A at *
  have hA : ∀ q : Nat, s.heap.size ≤ q → A q := fun q h => by rw [← hAe]; exact Or.inr h
  have hS : va_S A s.heap s.heap [] := va_S.rf
  have hl := lv_entry ([.ref h, .int a, .int f]) (n := 3) (Nat.le_of_ble_eq_true rfl)
  rw [lg_entry_eq]
  generalize (lg_sl ([.ref h, .int a, .int f]) ++ List.replicate (3 - (lg_sl ([.ref h, .int a, .int f])).length) Slot.unset).toArray = ls at hl ⊢
  have hl : lv_has ls 3 [(0, .ref h), (1, .int a), (2, .int f)] := hl
  refine lv_aload_n hx hb dX_fieldCell_0 rfl (lv_at hl 0 rfl) ?_
  refine lv_iload_n hx hb dX_fieldCell_1 rfl (lv_at hl 1 rfl) ?_
  refine sy_cVx (wc := wX h rr cc cI N R C li us ob sl go gi fr la re) (wr := []) (ci := 0) (q0 := 0) (As := [.int a]) (rest := []) ⟨hx, hb, hml, hown, hbg⟩ (ct_X_needObject_b l D h rr cc cI N R C li us ob sl go gi fr la re s.heap.size a hN hst hg) (cwV 1 hbg (bg_V bw_213 bw_214 bw_18 bw_34 bw_215) rfl rfl rfl (by decide +kernel) ⟨Nat.le_of_ble_eq_true rfl, Nat.le_of_ble_eq_true rfl⟩) hK [0] rfl hP hD hS hA hG [0, 1, 2] [] rfl rfl rfl rfl (by decide) rfl rfl rfl hl.1 rfl (Nat.le_of_ble_eq_true rfl) dX_fieldCell_2 ⟨Nat.le_of_ble_eq_true rfl, Nat.le_of_ble_eq_true rfl⟩ (fun q ce H locs hP hD hS hcell hcv hcl => ?_)
  exact sy_outx htab hlocks hP hK hD hS hcell hcv hcl (Nat.le_of_ble_eq_true rfl) (Nat.le_of_ble_eq_true rfl)

set_option maxHeartbeats 4000000 in
set_option maxRecDepth 100000 in
theorem ct_X_fieldCell_b2 (l : Launch) (D : va_G) (h rr cc : Nat) (cI : ClassId) (N : Nat) (R C : Nat → Int32) (li us ob sl go gi fr la re : Int32) (sz : Nat) (a f : Int32) (hN : N < 2 ^ 31) (hst : l.stackTraces = false) (hg : sr_isO N C a ob.toNatClampNeg 1 = true) (h1 : f < 0 ∨ ¬ f < sr_fi N C a) : sy_Mx l yX_fieldCell (Cond.code yX_fieldCell bX_fieldCell 3 (some .int) :: sr_big) { frames := 7, cells := 1, slots := 6, locals := 111 } D vwC [(cI, .int)] [.ref h, .int a, .int f] (wX h rr cc cI N R C li us ob sl go gi fr la re) sz sx_NSE 1 6 := by
  refine vx_ofW (cc := bX_fieldCell) (maxL := 3) (ret := (some .int)) (by decide) rfl ?_
  intro p e s m args below meth c s₁ B hml htab hv
  obtain ⟨rfl, ⟨hsz, hP, hK, hD0⟩, hG⟩ := hv
  have hx := B.exec
  have hb := B.bytes
  have hr := B.returns
  have hbg : ∀ w ∈ sr_big, w.before _ s = true := fun w h => atoms_spec (ws := Cond.code yX_fieldCell bX_fieldCell 3 (some .int) :: sr_big) B.pre w (List.mem_cons_of_mem _ h)
  have hown : s.vm.findClass RX = some m.cls := findClass_of_methodNamed B.named
  have hlocks := B.notSynchronized
  subst hsz
  have hD := hD0.self (sz := s.heap.size)
  generalize hAe : va_A (wX h rr cc cI N R C li us ob sl go gi fr la re) s.heap.size = A at *
  have hA : ∀ q : Nat, s.heap.size ≤ q → A q := fun q h => by rw [← hAe]; exact Or.inr h
  have hS : va_S A s.heap s.heap [] := va_S.rf
  have hl := lv_entry ([.ref h, .int a, .int f]) (n := 3) (Nat.le_of_ble_eq_true rfl)
  rw [lg_entry_eq]
  generalize (lg_sl ([.ref h, .int a, .int f]) ++ List.replicate (3 - (lg_sl ([.ref h, .int a, .int f])).length) Slot.unset).toArray = ls at hl ⊢
  have hl : lv_has ls 3 [(0, .ref h), (1, .int a), (2, .int f)] := hl
  refine lv_aload_n hx hb dX_fieldCell_0 rfl (lv_at hl 0 rfl) ?_
  refine lv_iload_n hx hb dX_fieldCell_1 rfl (lv_at hl 1 rfl) ?_
  refine sy_cVv (wc := wX h rr cc cI N R C li us ob sl go gi fr la re) (wr := []) (w1 := wX h rr cc cI N R C li us ob sl go gi fr la re) (ci := 0) (q0 := 0) (As := [.int a]) (rest := []) ⟨hx, hb, hml, hown, hbg⟩ (ct_X_needObject_k l D h rr cc cI N R C li us ob sl go gi fr la re s.heap.size a hN hg) (cwV 1 hbg (bg_V bw_213 bw_214 bw_18 bw_34 bw_215) rfl rfl rfl (by decide +kernel) ⟨Nat.le_of_ble_eq_true rfl, Nat.le_of_ble_eq_true rfl⟩) hK [0] rfl hP hD hS hA [0, 1, 2] [] rfl rfl rfl rfl (by decide) rfl rfl rfl hl.1 rfl (Nat.le_of_ble_eq_true rfl) dX_fieldCell_2 ⟨Nat.le_of_ble_eq_true rfl, Nat.le_of_ble_eq_true rfl⟩ (fun H locs hP hD hS => ?_)
  have hP : va_P D vwC (wX h rr cc cI N R C li us ob sl go gi fr la re) H := hP
  have hD : va_D A (wX h rr cc cI N R C li us ob sl go gi fr la re) := hD
  refine lv_iload_n hx hb dX_fieldCell_5 rfl (lv_at hl 2 rfl) ?_
  refine lv_if_lt (tgt := 18) hx hb dX_fieldCell_6 (by decide) (fun c_6 => ?_) (fun c_6 => ?_)
  · exact sy_throw (E := sx_NSE) (text := "no such field") (Or.inr ⟨rfl, rfl, rfl, rfl, rfl⟩) hx hb hst hown hbg (by decide) hG hP hK hD hS (hl.1.trans hml.symm) dX_fieldCell_18 dX_fieldCell_21 dX_fieldCell_22 dX_fieldCell_24 dX_fieldCell_27 htab (Nat.le_of_ble_eq_true rfl) (Nat.le_of_ble_eq_true rfl) (Nat.le_of_ble_eq_true rfl) (Nat.le_of_ble_eq_true rfl) hlocks (Nat.le_of_ble_eq_true rfl) (Nat.le_of_ble_eq_true rfl)
  · refine lv_iload_n hx hb dX_fieldCell_9 rfl (lv_at hl 2 rfl) ?_
    refine lv_aload_n hx hb dX_fieldCell_10 rfl (lv_at hl 0 rfl) ?_
    refine lv_iload_n hx hb dX_fieldCell_11 rfl (lv_at hl 1 rfl) ?_
    refine sy_cVi (wc := wX h rr cc cI N R C li us ob sl go gi fr la re) (wr := []) (w1 := wX h rr cc cI N R C li us ob sl go gi fr la re) (ci := 0) (q0 := 0) (As := [.int a]) (rest := [.int f]) ⟨hx, hb, hml, hown, hbg⟩ (ct_X_fieldsOf l D h rr cc cI N R C li us ob sl go gi fr la re H.size a hN) (cwV 1 hbg (bg_V bw_99 bw_100 bw_7 bw_34 bw_101) rfl rfl rfl (by decide +kernel) ⟨Nat.le_of_ble_eq_true rfl, Nat.le_of_ble_eq_true rfl⟩) hK [0] rfl hP hD hS hA [0, 1, 2] [] rfl rfl rfl rfl (by decide) rfl rfl rfl hl.1 rfl (Nat.le_of_ble_eq_true rfl) dX_fieldCell_12 ⟨Nat.le_of_ble_eq_true rfl, Nat.le_of_ble_eq_true rfl⟩ (fun H locs hP hD hS => ?_)
    have hP : va_P D vwC (wX h rr cc cI N R C li us ob sl go gi fr la re) H := hP
    have hD : va_D A (wX h rr cc cI N R C li us ob sl go gi fr la re) := hD
    refine lv_icmp_lt (tgt := 28) hx hb dX_fieldCell_15 (by decide) (fun z => absurd z (h1.resolve_left c_6)) (fun _ => ?_)
    exact sy_throw (E := sx_NSE) (text := "no such field") (Or.inr ⟨rfl, rfl, rfl, rfl, rfl⟩) hx hb hst hown hbg (by decide) hG hP hK hD hS (hl.1.trans hml.symm) dX_fieldCell_18 dX_fieldCell_21 dX_fieldCell_22 dX_fieldCell_24 dX_fieldCell_27 htab (Nat.le_of_ble_eq_true rfl) (Nat.le_of_ble_eq_true rfl) (Nat.le_of_ble_eq_true rfl) (Nat.le_of_ble_eq_true rfl) hlocks (Nat.le_of_ble_eq_true rfl) (Nat.le_of_ble_eq_true rfl)

theorem ct_X_fieldCell_b (l : Launch) (D : va_G) (h rr cc : Nat) (cI : ClassId) (N : Nat) (R C : Nat → Int32) (li us ob sl go gi fr la re : Int32) (sz : Nat) (a f : Int32) (hN : N < 2 ^ 31) (hst : l.stackTraces = false) (hg : sr_isO N C a ob.toNatClampNeg 1 = false ∨ (sr_isO N C a ob.toNatClampNeg 1 = true ∧ (f < 0 ∨ ¬ f < sr_fi N C a))) : sy_Mx l yX_fieldCell (Cond.code yX_fieldCell bX_fieldCell 3 (some .int) :: sr_big) { frames := 7, cells := 1, slots := 6, locals := 111 } D vwC [(cI, .int)] [.ref h, .int a, .int f] (wX h rr cc cI N R C li us ob sl go gi fr la re) sz sx_NSE 1 6 := by
  rcases hg with hg | ⟨hg, h1⟩
  · exact ct_X_fieldCell_b1 l D h rr cc cI N R C li us ob sl go gi fr la re sz a f hN hst hg
  · exact ct_X_fieldCell_b2 l D h rr cc cI N R C li us ob sl go gi fr la re sz a f hN hst hg h1

set_option maxHeartbeats 4000000 in
set_option maxRecDepth 100000 in
theorem ct_X_wordCell_k (l : Launch) (D : va_G) (h rr cc : Nat) (cI : ClassId) (N : Nat) (R C : Nat → Int32) (li us ob sl go gi fr la re : Int32) (sz : Nat) (a f : Int32) (hN : N < 2 ^ 31) (hg : sr_isO N C a ob.toNatClampNeg 1 = true) (h1 : ¬ f < 0) (h2 : f < sr_wi N C a) : sy_Mi l yX_wordCell (Cond.code yX_wordCell bX_wordCell 3 (some .int) :: sr_big) { frames := 7, cells := 0, slots := 0, locals := 111 } D vwC [(cI, .int)] [.ref h, .int a, .int f] (wX h rr cc cI N R C li us ob sl go gi fr la re) sz (a + 3 + sr_fi N C a + f) (wX h rr cc cI N R C li us ob sl go gi fr la re) 0 0 := by
  refine Met.ofW (cc := bX_wordCell) (maxL := 3) (ret := (some .int)) (by decide) rfl ?_
  intro p e s m args below meth c s₁ B hml hv
  obtain ⟨rfl, hsz, hP, hK, hD0⟩ := hv
  have hx := B.exec
  have hb := B.bytes
  have hr := B.returns
  have hbg : ∀ w ∈ sr_big, w.before _ s = true := fun w h => atoms_spec (ws := Cond.code yX_wordCell bX_wordCell 3 (some .int) :: sr_big) B.pre w (List.mem_cons_of_mem _ h)
  have hown : s.vm.findClass RX = some m.cls := findClass_of_methodNamed B.named
  have hlocks := B.notSynchronized
  subst hsz
  have hD := hD0.self (sz := s.heap.size)
  generalize hAe : va_A (wX h rr cc cI N R C li us ob sl go gi fr la re) s.heap.size = A at *
  have hA : ∀ q : Nat, s.heap.size ≤ q → A q := fun q h => by rw [← hAe]; exact Or.inr h
  have hS : va_S A s.heap s.heap [] := va_S.rf
  have hl := lv_entry ([.ref h, .int a, .int f]) (n := 3) (Nat.le_of_ble_eq_true rfl)
  rw [lg_entry_eq]
  generalize (lg_sl ([.ref h, .int a, .int f]) ++ List.replicate (3 - (lg_sl ([.ref h, .int a, .int f])).length) Slot.unset).toArray = ls at hl ⊢
  have hl : lv_has ls 3 [(0, .ref h), (1, .int a), (2, .int f)] := hl
  refine lv_aload_n hx hb dX_wordCell_0 rfl (lv_at hl 0 rfl) ?_
  refine lv_iload_n hx hb dX_wordCell_1 rfl (lv_at hl 1 rfl) ?_
  refine sy_cVv (wc := wX h rr cc cI N R C li us ob sl go gi fr la re) (wr := []) (w1 := wX h rr cc cI N R C li us ob sl go gi fr la re) (ci := 0) (q0 := 0) (As := [.int a]) (rest := []) ⟨hx, hb, hml, hown, hbg⟩ (ct_X_needObject_k l D h rr cc cI N R C li us ob sl go gi fr la re s.heap.size a hN hg) (cwV 1 hbg (bg_V bw_213 bw_214 bw_18 bw_34 bw_215) rfl rfl rfl (by decide +kernel) ⟨Nat.le_of_ble_eq_true rfl, Nat.le_of_ble_eq_true rfl⟩) hK [0] rfl hP hD hS hA [0, 1, 2] [] rfl rfl rfl rfl (by decide) rfl rfl rfl hl.1 rfl (Nat.le_of_ble_eq_true rfl) dX_wordCell_2 ⟨Nat.le_of_ble_eq_true rfl, Nat.le_of_ble_eq_true rfl⟩ (fun H locs hP hD hS => ?_)
  have hP : va_P D vwC (wX h rr cc cI N R C li us ob sl go gi fr la re) H := hP
  have hD : va_D A (wX h rr cc cI N R C li us ob sl go gi fr la re) := hD
  refine lv_iload_n hx hb dX_wordCell_5 rfl (lv_at hl 2 rfl) ?_
  refine lv_if_lt (tgt := 18) hx hb dX_wordCell_6 (by decide) (fun z => absurd z h1) (fun _ => ?_)
  refine lv_iload_n hx hb dX_wordCell_9 rfl (lv_at hl 2 rfl) ?_
  refine lv_aload_n hx hb dX_wordCell_10 rfl (lv_at hl 0 rfl) ?_
  refine lv_iload_n hx hb dX_wordCell_11 rfl (lv_at hl 1 rfl) ?_
  refine sy_cVi (wc := wX h rr cc cI N R C li us ob sl go gi fr la re) (wr := []) (w1 := wX h rr cc cI N R C li us ob sl go gi fr la re) (ci := 0) (q0 := 0) (As := [.int a]) (rest := [.int f]) ⟨hx, hb, hml, hown, hbg⟩ (ct_X_wordsOf l D h rr cc cI N R C li us ob sl go gi fr la re H.size a hN) (cwV 1 hbg (bg_V bw_255 bw_256 bw_23 bw_34 bw_257) rfl rfl rfl (by decide +kernel) ⟨Nat.le_of_ble_eq_true rfl, Nat.le_of_ble_eq_true rfl⟩) hK [0] rfl hP hD hS hA [0, 1, 2] [] rfl rfl rfl rfl (by decide) rfl rfl rfl hl.1 rfl (Nat.le_of_ble_eq_true rfl) dX_wordCell_12 ⟨Nat.le_of_ble_eq_true rfl, Nat.le_of_ble_eq_true rfl⟩ (fun H locs hP hD hS => ?_)
  have hP : va_P D vwC (wX h rr cc cI N R C li us ob sl go gi fr la re) H := hP
  have hD : va_D A (wX h rr cc cI N R C li us ob sl go gi fr la re) := hD
  refine lv_icmp_lt (tgt := 28) hx hb dX_wordCell_15 (by decide) (fun _ => ?_) (fun z => absurd h2 z)
  refine lv_iload_n hx hb dX_wordCell_28 rfl (lv_at hl 1 rfl) ?_
  refine lv_iconst (v := 3) hx hb dX_wordCell_29 (by decide) ?_
  refine lv_iadd hx hb dX_wordCell_30 ?_
  refine lv_aload_n hx hb dX_wordCell_31 rfl (lv_at hl 0 rfl) ?_
  refine lv_iload_n hx hb dX_wordCell_32 rfl (lv_at hl 1 rfl) ?_
  refine sy_cVi (wc := wX h rr cc cI N R C li us ob sl go gi fr la re) (wr := []) (w1 := wX h rr cc cI N R C li us ob sl go gi fr la re) (ci := 0) (q0 := 0) (As := [.int a]) (rest := [.int (a + 3)]) ⟨hx, hb, hml, hown, hbg⟩ (ct_X_fieldsOf l D h rr cc cI N R C li us ob sl go gi fr la re H.size a hN) (cwV 1 hbg (bg_V bw_99 bw_100 bw_7 bw_34 bw_101) rfl rfl rfl (by decide +kernel) ⟨Nat.le_of_ble_eq_true rfl, Nat.le_of_ble_eq_true rfl⟩) hK [0] rfl hP hD hS hA [0, 1, 2] [] rfl rfl rfl rfl (by decide) rfl rfl rfl hl.1 rfl (Nat.le_of_ble_eq_true rfl) dX_wordCell_33 ⟨Nat.le_of_ble_eq_true rfl, Nat.le_of_ble_eq_true rfl⟩ (fun H locs hP hD hS => ?_)
  have hP : va_P D vwC (wX h rr cc cI N R C li us ob sl go gi fr la re) H := hP
  have hD : va_D A (wX h rr cc cI N R C li us ob sl go gi fr la re) := hD
  refine lv_iadd hx hb dX_wordCell_36 ?_
  refine lv_iload_n hx hb dX_wordCell_37 rfl (lv_at hl 2 rfl) ?_
  refine lv_iadd hx hb dX_wordCell_38 ?_
  refine W.widen (k := 0) (n := 0) (Nat.le_of_ble_eq_true rfl) (Nat.le_of_ble_eq_true rfl) ?_
  exact W.iret (v := ((a + 3) + (sr_fi N C a)) + f) hx hb hr (fun t ht hW => ⟨⟨((a + 3) + (sr_fi N C a)) + f, (), rfl, rfl, by rw [ht]; exact hP, va_K.moved hW.alike hK, hD⟩, hS.F ht⟩) hS.2.2 dX_wordCell_39

set_option maxHeartbeats 4000000 in
set_option maxRecDepth 100000 in
theorem ct_X_wordCell_b1 (l : Launch) (D : va_G) (h rr cc : Nat) (cI : ClassId) (N : Nat) (R C : Nat → Int32) (li us ob sl go gi fr la re : Int32) (sz : Nat) (a f : Int32) (hN : N < 2 ^ 31) (hst : l.stackTraces = false) (hg : sr_isO N C a ob.toNatClampNeg 1 = false) : sy_Mx l yX_wordCell (Cond.code yX_wordCell bX_wordCell 3 (some .int) :: sr_big) { frames := 7, cells := 1, slots := 6, locals := 111 } D vwC [(cI, .int)] [.ref h, .int a, .int f] (wX h rr cc cI N R C li us ob sl go gi fr la re) sz sx_NSE 1 6 := by
  refine vx_ofW (cc := bX_wordCell) (maxL := 3) (ret := (some .int)) (by decide) rfl ?_
  intro p e s m args below meth c s₁ B hml htab hv
  obtain ⟨rfl, ⟨hsz, hP, hK, hD0⟩, hG⟩ := hv
  have hx := B.exec
  have hb := B.bytes
  have hr := B.returns
  have hbg : ∀ w ∈ sr_big, w.before _ s = true := fun w h => atoms_spec (ws := Cond.code yX_wordCell bX_wordCell 3 (some .int) :: sr_big) B.pre w (List.mem_cons_of_mem _ h)
  have hown : s.vm.findClass RX = some m.cls := findClass_of_methodNamed B.named
  have hlocks := B.notSynchronized
  subst hsz
  have hD := hD0.self (sz := s.heap.size)
  generalize hAe : va_A (wX h rr cc cI N R C li us ob sl go gi fr la re) s.heap.size = A at *
  have hA : ∀ q : Nat, s.heap.size ≤ q → A q := fun q h => by rw [← hAe]; exact Or.inr h
  have hS : va_S A s.heap s.heap [] := va_S.rf
  have hl := lv_entry ([.ref h, .int a, .int f]) (n := 3) (Nat.le_of_ble_eq_true rfl)
  rw [lg_entry_eq]
  generalize (lg_sl ([.ref h, .int a, .int f]) ++ List.replicate (3 - (lg_sl ([.ref h, .int a, .int f])).length) Slot.unset).toArray = ls at hl ⊢
  have hl : lv_has ls 3 [(0, .ref h), (1, .int a), (2, .int f)] := hl
  refine lv_aload_n hx hb dX_wordCell_0 rfl (lv_at hl 0 rfl) ?_
  refine lv_iload_n hx hb dX_wordCell_1 rfl (lv_at hl 1 rfl) ?_
  refine sy_cVx (wc := wX h rr cc cI N R C li us ob sl go gi fr la re) (wr := []) (ci := 0) (q0 := 0) (As := [.int a]) (rest := []) ⟨hx, hb, hml, hown, hbg⟩ (ct_X_needObject_b l D h rr cc cI N R C li us ob sl go gi fr la re s.heap.size a hN hst hg) (cwV 1 hbg (bg_V bw_213 bw_214 bw_18 bw_34 bw_215) rfl rfl rfl (by decide +kernel) ⟨Nat.le_of_ble_eq_true rfl, Nat.le_of_ble_eq_true rfl⟩) hK [0] rfl hP hD hS hA hG [0, 1, 2] [] rfl rfl rfl rfl (by decide) rfl rfl rfl hl.1 rfl (Nat.le_of_ble_eq_true rfl) dX_wordCell_2 ⟨Nat.le_of_ble_eq_true rfl, Nat.le_of_ble_eq_true rfl⟩ (fun q ce H locs hP hD hS hcell hcv hcl => ?_)
  exact sy_outx htab hlocks hP hK hD hS hcell hcv hcl (Nat.le_of_ble_eq_true rfl) (Nat.le_of_ble_eq_true rfl)

set_option maxHeartbeats 4000000 in
set_option maxRecDepth 100000 in
theorem ct_X_wordCell_b2 (l : Launch) (D : va_G) (h rr cc : Nat) (cI : ClassId) (N : Nat) (R C : Nat → Int32) (li us ob sl go gi fr la re : Int32) (sz : Nat) (a f : Int32) (hN : N < 2 ^ 31) (hst : l.stackTraces = false) (hg : sr_isO N C a ob.toNatClampNeg 1 = true) (h1 : f < 0 ∨ ¬ f < sr_wi N C a) : sy_Mx l yX_wordCell (Cond.code yX_wordCell bX_wordCell 3 (some .int) :: sr_big) { frames := 7, cells := 1, slots := 6, locals := 111 } D vwC [(cI, .int)] [.ref h, .int a, .int f] (wX h rr cc cI N R C li us ob sl go gi fr la re) sz sx_NSE 1 6 := by
  refine vx_ofW (cc := bX_wordCell) (maxL := 3) (ret := (some .int)) (by decide) rfl ?_
  intro p e s m args below meth c s₁ B hml htab hv
  obtain ⟨rfl, ⟨hsz, hP, hK, hD0⟩, hG⟩ := hv
  have hx := B.exec
  have hb := B.bytes
  have hr := B.returns
  have hbg : ∀ w ∈ sr_big, w.before _ s = true := fun w h => atoms_spec (ws := Cond.code yX_wordCell bX_wordCell 3 (some .int) :: sr_big) B.pre w (List.mem_cons_of_mem _ h)
  have hown : s.vm.findClass RX = some m.cls := findClass_of_methodNamed B.named
  have hlocks := B.notSynchronized
  subst hsz
  have hD := hD0.self (sz := s.heap.size)
  generalize hAe : va_A (wX h rr cc cI N R C li us ob sl go gi fr la re) s.heap.size = A at *
  have hA : ∀ q : Nat, s.heap.size ≤ q → A q := fun q h => by rw [← hAe]; exact Or.inr h
  have hS : va_S A s.heap s.heap [] := va_S.rf
  have hl := lv_entry ([.ref h, .int a, .int f]) (n := 3) (Nat.le_of_ble_eq_true rfl)
  rw [lg_entry_eq]
  generalize (lg_sl ([.ref h, .int a, .int f]) ++ List.replicate (3 - (lg_sl ([.ref h, .int a, .int f])).length) Slot.unset).toArray = ls at hl ⊢
  have hl : lv_has ls 3 [(0, .ref h), (1, .int a), (2, .int f)] := hl
  refine lv_aload_n hx hb dX_wordCell_0 rfl (lv_at hl 0 rfl) ?_
  refine lv_iload_n hx hb dX_wordCell_1 rfl (lv_at hl 1 rfl) ?_
  refine sy_cVv (wc := wX h rr cc cI N R C li us ob sl go gi fr la re) (wr := []) (w1 := wX h rr cc cI N R C li us ob sl go gi fr la re) (ci := 0) (q0 := 0) (As := [.int a]) (rest := []) ⟨hx, hb, hml, hown, hbg⟩ (ct_X_needObject_k l D h rr cc cI N R C li us ob sl go gi fr la re s.heap.size a hN hg) (cwV 1 hbg (bg_V bw_213 bw_214 bw_18 bw_34 bw_215) rfl rfl rfl (by decide +kernel) ⟨Nat.le_of_ble_eq_true rfl, Nat.le_of_ble_eq_true rfl⟩) hK [0] rfl hP hD hS hA [0, 1, 2] [] rfl rfl rfl rfl (by decide) rfl rfl rfl hl.1 rfl (Nat.le_of_ble_eq_true rfl) dX_wordCell_2 ⟨Nat.le_of_ble_eq_true rfl, Nat.le_of_ble_eq_true rfl⟩ (fun H locs hP hD hS => ?_)
  have hP : va_P D vwC (wX h rr cc cI N R C li us ob sl go gi fr la re) H := hP
  have hD : va_D A (wX h rr cc cI N R C li us ob sl go gi fr la re) := hD
  refine lv_iload_n hx hb dX_wordCell_5 rfl (lv_at hl 2 rfl) ?_
  refine lv_if_lt (tgt := 18) hx hb dX_wordCell_6 (by decide) (fun c_6 => ?_) (fun c_6 => ?_)
  · exact sy_throw (E := sx_NSE) (text := "no such word") (Or.inr ⟨rfl, rfl, rfl, rfl, rfl⟩) hx hb hst hown hbg (by decide) hG hP hK hD hS (hl.1.trans hml.symm) dX_wordCell_18 dX_wordCell_21 dX_wordCell_22 dX_wordCell_24 dX_wordCell_27 htab (Nat.le_of_ble_eq_true rfl) (Nat.le_of_ble_eq_true rfl) (Nat.le_of_ble_eq_true rfl) (Nat.le_of_ble_eq_true rfl) hlocks (Nat.le_of_ble_eq_true rfl) (Nat.le_of_ble_eq_true rfl)
  · refine lv_iload_n hx hb dX_wordCell_9 rfl (lv_at hl 2 rfl) ?_
    refine lv_aload_n hx hb dX_wordCell_10 rfl (lv_at hl 0 rfl) ?_
    refine lv_iload_n hx hb dX_wordCell_11 rfl (lv_at hl 1 rfl) ?_
    refine sy_cVi (wc := wX h rr cc cI N R C li us ob sl go gi fr la re) (wr := []) (w1 := wX h rr cc cI N R C li us ob sl go gi fr la re) (ci := 0) (q0 := 0) (As := [.int a]) (rest := [.int f]) ⟨hx, hb, hml, hown, hbg⟩ (ct_X_wordsOf l D h rr cc cI N R C li us ob sl go gi fr la re H.size a hN) (cwV 1 hbg (bg_V bw_255 bw_256 bw_23 bw_34 bw_257) rfl rfl rfl (by decide +kernel) ⟨Nat.le_of_ble_eq_true rfl, Nat.le_of_ble_eq_true rfl⟩) hK [0] rfl hP hD hS hA [0, 1, 2] [] rfl rfl rfl rfl (by decide) rfl rfl rfl hl.1 rfl (Nat.le_of_ble_eq_true rfl) dX_wordCell_12 ⟨Nat.le_of_ble_eq_true rfl, Nat.le_of_ble_eq_true rfl⟩ (fun H locs hP hD hS => ?_)
    have hP : va_P D vwC (wX h rr cc cI N R C li us ob sl go gi fr la re) H := hP
    have hD : va_D A (wX h rr cc cI N R C li us ob sl go gi fr la re) := hD
    refine lv_icmp_lt (tgt := 28) hx hb dX_wordCell_15 (by decide) (fun z => absurd z (h1.resolve_left c_6)) (fun _ => ?_)
    exact sy_throw (E := sx_NSE) (text := "no such word") (Or.inr ⟨rfl, rfl, rfl, rfl, rfl⟩) hx hb hst hown hbg (by decide) hG hP hK hD hS (hl.1.trans hml.symm) dX_wordCell_18 dX_wordCell_21 dX_wordCell_22 dX_wordCell_24 dX_wordCell_27 htab (Nat.le_of_ble_eq_true rfl) (Nat.le_of_ble_eq_true rfl) (Nat.le_of_ble_eq_true rfl) (Nat.le_of_ble_eq_true rfl) hlocks (Nat.le_of_ble_eq_true rfl) (Nat.le_of_ble_eq_true rfl)

theorem ct_X_wordCell_b (l : Launch) (D : va_G) (h rr cc : Nat) (cI : ClassId) (N : Nat) (R C : Nat → Int32) (li us ob sl go gi fr la re : Int32) (sz : Nat) (a f : Int32) (hN : N < 2 ^ 31) (hst : l.stackTraces = false) (hg : sr_isO N C a ob.toNatClampNeg 1 = false ∨ (sr_isO N C a ob.toNatClampNeg 1 = true ∧ (f < 0 ∨ ¬ f < sr_wi N C a))) : sy_Mx l yX_wordCell (Cond.code yX_wordCell bX_wordCell 3 (some .int) :: sr_big) { frames := 7, cells := 1, slots := 6, locals := 111 } D vwC [(cI, .int)] [.ref h, .int a, .int f] (wX h rr cc cI N R C li us ob sl go gi fr la re) sz sx_NSE 1 6 := by
  rcases hg with hg | ⟨hg, h1⟩
  · exact ct_X_wordCell_b1 l D h rr cc cI N R C li us ob sl go gi fr la re sz a f hN hst hg
  · exact ct_X_wordCell_b2 l D h rr cc cI N R C li us ob sl go gi fr la re sz a f hN hst hg h1

set_option maxHeartbeats 4000000 in
set_option maxRecDepth 100000 in
theorem ct_X_get_k (l : Launch) (D : va_G) (h rr cc : Nat) (cI : ClassId) (N : Nat) (R C : Nat → Int32) (li us ob sl go gi fr la re : Int32) (sz : Nat) (a f : Int32) (hN : N < 2 ^ 31) (hg : sr_isO N C a ob.toNatClampNeg 1 = true) (h1 : ¬ f < 0) (h2 : f < sr_fi N C a) : sy_Mi l yX_get (Cond.code yX_get bX_get 3 (some .int) :: sr_big) { frames := 8, cells := 0, slots := 0, locals := 133 } D vwC [(cI, .int)] [.ref h, .int a, .int f] (wX h rr cc cI N R C li us ob sl go gi fr la re) sz (sr_rd N C (a + 3 + f)) (wX h rr cc cI N R C li us ob sl go gi fr la re) 0 0 := by
  refine Met.ofW (cc := bX_get) (maxL := 3) (ret := (some .int)) (by decide) rfl ?_
  intro p e s m args below meth c s₁ B hml hv
  obtain ⟨rfl, hsz, hP, hK, hD0⟩ := hv
  have hx := B.exec
  have hb := B.bytes
  have hr := B.returns
  have hbg : ∀ w ∈ sr_big, w.before _ s = true := fun w h => atoms_spec (ws := Cond.code yX_get bX_get 3 (some .int) :: sr_big) B.pre w (List.mem_cons_of_mem _ h)
  have hown : s.vm.findClass RX = some m.cls := findClass_of_methodNamed B.named
  have hlocks := B.notSynchronized
  subst hsz
  have hD := hD0.self (sz := s.heap.size)
  generalize hAe : va_A (wX h rr cc cI N R C li us ob sl go gi fr la re) s.heap.size = A at *
  have hA : ∀ q : Nat, s.heap.size ≤ q → A q := fun q h => by rw [← hAe]; exact Or.inr h
  have hS : va_S A s.heap s.heap [] := va_S.rf
  have hl := lv_entry ([.ref h, .int a, .int f]) (n := 3) (Nat.le_of_ble_eq_true rfl)
  rw [lg_entry_eq]
  generalize (lg_sl ([.ref h, .int a, .int f]) ++ List.replicate (3 - (lg_sl ([.ref h, .int a, .int f])).length) Slot.unset).toArray = ls at hl ⊢
  have hl : lv_has ls 3 [(0, .ref h), (1, .int a), (2, .int f)] := hl
  refine lv_aload_n hx hb dX_get_0 rfl (lv_at hl 0 rfl) ?_
  refine lv_aload_n hx hb dX_get_1 rfl (lv_at hl 0 rfl) ?_
  refine lv_iload_n hx hb dX_get_2 rfl (lv_at hl 1 rfl) ?_
  refine lv_iload_n hx hb dX_get_3 rfl (lv_at hl 2 rfl) ?_
  refine sy_cVi (wc := wX h rr cc cI N R C li us ob sl go gi fr la re) (wr := []) (w1 := wX h rr cc cI N R C li us ob sl go gi fr la re) (ci := 0) (q0 := 0) (As := [.int a, .int f]) (rest := [.ref h]) ⟨hx, hb, hml, hown, hbg⟩ (ct_X_fieldCell_k l D h rr cc cI N R C li us ob sl go gi fr la re s.heap.size a f hN hg h1 h2) (cwV 2 hbg (bg_V bw_210 bw_211 bw_17 bw_34 bw_212) rfl rfl rfl (by decide +kernel) ⟨Nat.le_of_ble_eq_true rfl, Nat.le_of_ble_eq_true rfl⟩) hK [0] rfl hP hD hS hA [0, 1, 2] [] rfl rfl rfl rfl (by decide) rfl rfl rfl hl.1 rfl (Nat.le_of_ble_eq_true rfl) dX_get_4 ⟨Nat.le_of_ble_eq_true rfl, Nat.le_of_ble_eq_true rfl⟩ (fun H locs hP hD hS => ?_)
  have hP : va_P D vwC (wX h rr cc cI N R C li us ob sl go gi fr la re) H := hP
  have hD : va_D A (wX h rr cc cI N R C li us ob sl go gi fr la re) := hD
  refine sy_cVi (wc := wX h rr cc cI N R C li us ob sl go gi fr la re) (wr := []) (w1 := wX h rr cc cI N R C li us ob sl go gi fr la re) (ci := 0) (q0 := 0) (As := [.int (a + 3 + f)]) (rest := []) ⟨hx, hb, hml, hown, hbg⟩ (ct_X_read l D h rr cc cI N R C li us ob sl go gi fr la re H.size (a + 3 + f) hN) (cwV 1 hbg (bg_V bw_90 bw_91 bw_4 bw_34 bw_92) rfl rfl rfl (by decide +kernel) ⟨Nat.le_of_ble_eq_true rfl, Nat.le_of_ble_eq_true rfl⟩) hK [0] rfl hP hD hS hA [0, 1, 2] [] rfl rfl rfl rfl (by decide) rfl rfl rfl hl.1 rfl (Nat.le_of_ble_eq_true rfl) dX_get_7 ⟨Nat.le_of_ble_eq_true rfl, Nat.le_of_ble_eq_true rfl⟩ (fun H locs hP hD hS => ?_)
  have hP : va_P D vwC (wX h rr cc cI N R C li us ob sl go gi fr la re) H := hP
  have hD : va_D A (wX h rr cc cI N R C li us ob sl go gi fr la re) := hD
  refine W.widen (k := 0) (n := 0) (Nat.le_of_ble_eq_true rfl) (Nat.le_of_ble_eq_true rfl) ?_
  exact W.iret (v := sr_rd N C (a + 3 + f)) hx hb hr (fun t ht hW => ⟨⟨sr_rd N C (a + 3 + f), (), rfl, rfl, by rw [ht]; exact hP, va_K.moved hW.alike hK, hD⟩, hS.F ht⟩) hS.2.2 dX_get_10

set_option maxHeartbeats 4000000 in
set_option maxRecDepth 100000 in
theorem ct_X_get_b (l : Launch) (D : va_G) (h rr cc : Nat) (cI : ClassId) (N : Nat) (R C : Nat → Int32) (li us ob sl go gi fr la re : Int32) (sz : Nat) (a f : Int32) (hN : N < 2 ^ 31) (hst : l.stackTraces = false) (hg : sr_isO N C a ob.toNatClampNeg 1 = false ∨ (sr_isO N C a ob.toNatClampNeg 1 = true ∧ (f < 0 ∨ ¬ f < sr_fi N C a))) : sy_Mx l yX_get (Cond.code yX_get bX_get 3 (some .int) :: sr_big) { frames := 8, cells := 1, slots := 6, locals := 133 } D vwC [(cI, .int)] [.ref h, .int a, .int f] (wX h rr cc cI N R C li us ob sl go gi fr la re) sz sx_NSE 1 6 := by
  refine vx_ofW (cc := bX_get) (maxL := 3) (ret := (some .int)) (by decide) rfl ?_
  intro p e s m args below meth c s₁ B hml htab hv
  obtain ⟨rfl, ⟨hsz, hP, hK, hD0⟩, hG⟩ := hv
  have hx := B.exec
  have hb := B.bytes
  have hr := B.returns
  have hbg : ∀ w ∈ sr_big, w.before _ s = true := fun w h => atoms_spec (ws := Cond.code yX_get bX_get 3 (some .int) :: sr_big) B.pre w (List.mem_cons_of_mem _ h)
  have hown : s.vm.findClass RX = some m.cls := findClass_of_methodNamed B.named
  have hlocks := B.notSynchronized
  subst hsz
  have hD := hD0.self (sz := s.heap.size)
  generalize hAe : va_A (wX h rr cc cI N R C li us ob sl go gi fr la re) s.heap.size = A at *
  have hA : ∀ q : Nat, s.heap.size ≤ q → A q := fun q h => by rw [← hAe]; exact Or.inr h
  have hS : va_S A s.heap s.heap [] := va_S.rf
  have hl := lv_entry ([.ref h, .int a, .int f]) (n := 3) (Nat.le_of_ble_eq_true rfl)
  rw [lg_entry_eq]
  generalize (lg_sl ([.ref h, .int a, .int f]) ++ List.replicate (3 - (lg_sl ([.ref h, .int a, .int f])).length) Slot.unset).toArray = ls at hl ⊢
  have hl : lv_has ls 3 [(0, .ref h), (1, .int a), (2, .int f)] := hl
  refine lv_aload_n hx hb dX_get_0 rfl (lv_at hl 0 rfl) ?_
  refine lv_aload_n hx hb dX_get_1 rfl (lv_at hl 0 rfl) ?_
  refine lv_iload_n hx hb dX_get_2 rfl (lv_at hl 1 rfl) ?_
  refine lv_iload_n hx hb dX_get_3 rfl (lv_at hl 2 rfl) ?_
  refine sy_cVx (wc := wX h rr cc cI N R C li us ob sl go gi fr la re) (wr := []) (ci := 0) (q0 := 0) (As := [.int a, .int f]) (rest := [.ref h]) ⟨hx, hb, hml, hown, hbg⟩ (ct_X_fieldCell_b l D h rr cc cI N R C li us ob sl go gi fr la re s.heap.size a f hN hst hg) (cwV 2 hbg (bg_V bw_210 bw_211 bw_17 bw_34 bw_212) rfl rfl rfl (by decide +kernel) ⟨Nat.le_of_ble_eq_true rfl, Nat.le_of_ble_eq_true rfl⟩) hK [0] rfl hP hD hS hA hG [0, 1, 2] [] rfl rfl rfl rfl (by decide) rfl rfl rfl hl.1 rfl (Nat.le_of_ble_eq_true rfl) dX_get_4 ⟨Nat.le_of_ble_eq_true rfl, Nat.le_of_ble_eq_true rfl⟩ (fun q ce H locs hP hD hS hcell hcv hcl => ?_)
  exact sy_outx htab hlocks hP hK hD hS hcell hcv hcl (Nat.le_of_ble_eq_true rfl) (Nat.le_of_ble_eq_true rfl)

set_option maxHeartbeats 4000000 in
set_option maxRecDepth 100000 in
theorem ct_X_word_k (l : Launch) (D : va_G) (h rr cc : Nat) (cI : ClassId) (N : Nat) (R C : Nat → Int32) (li us ob sl go gi fr la re : Int32) (sz : Nat) (a f : Int32) (hN : N < 2 ^ 31) (hg : sr_isO N C a ob.toNatClampNeg 1 = true) (h1 : ¬ f < 0) (h2 : f < sr_wi N C a) : sy_Mi l yX_word (Cond.code yX_word bX_word 3 (some .int) :: sr_big) { frames := 8, cells := 0, slots := 0, locals := 133 } D vwC [(cI, .int)] [.ref h, .int a, .int f] (wX h rr cc cI N R C li us ob sl go gi fr la re) sz (sr_rd N C (a + 3 + sr_fi N C a + f)) (wX h rr cc cI N R C li us ob sl go gi fr la re) 0 0 := by
  refine Met.ofW (cc := bX_word) (maxL := 3) (ret := (some .int)) (by decide) rfl ?_
  intro p e s m args below meth c s₁ B hml hv
  obtain ⟨rfl, hsz, hP, hK, hD0⟩ := hv
  have hx := B.exec
  have hb := B.bytes
  have hr := B.returns
  have hbg : ∀ w ∈ sr_big, w.before _ s = true := fun w h => atoms_spec (ws := Cond.code yX_word bX_word 3 (some .int) :: sr_big) B.pre w (List.mem_cons_of_mem _ h)
  have hown : s.vm.findClass RX = some m.cls := findClass_of_methodNamed B.named
  have hlocks := B.notSynchronized
  subst hsz
  have hD := hD0.self (sz := s.heap.size)
  generalize hAe : va_A (wX h rr cc cI N R C li us ob sl go gi fr la re) s.heap.size = A at *
  have hA : ∀ q : Nat, s.heap.size ≤ q → A q := fun q h => by rw [← hAe]; exact Or.inr h
  have hS : va_S A s.heap s.heap [] := va_S.rf
  have hl := lv_entry ([.ref h, .int a, .int f]) (n := 3) (Nat.le_of_ble_eq_true rfl)
  rw [lg_entry_eq]
  generalize (lg_sl ([.ref h, .int a, .int f]) ++ List.replicate (3 - (lg_sl ([.ref h, .int a, .int f])).length) Slot.unset).toArray = ls at hl ⊢
  have hl : lv_has ls 3 [(0, .ref h), (1, .int a), (2, .int f)] := hl
  refine lv_aload_n hx hb dX_word_0 rfl (lv_at hl 0 rfl) ?_
  refine lv_aload_n hx hb dX_word_1 rfl (lv_at hl 0 rfl) ?_
  refine lv_iload_n hx hb dX_word_2 rfl (lv_at hl 1 rfl) ?_
  refine lv_iload_n hx hb dX_word_3 rfl (lv_at hl 2 rfl) ?_
  refine sy_cVi (wc := wX h rr cc cI N R C li us ob sl go gi fr la re) (wr := []) (w1 := wX h rr cc cI N R C li us ob sl go gi fr la re) (ci := 0) (q0 := 0) (As := [.int a, .int f]) (rest := [.ref h]) ⟨hx, hb, hml, hown, hbg⟩ (ct_X_wordCell_k l D h rr cc cI N R C li us ob sl go gi fr la re s.heap.size a f hN hg h1 h2) (cwV 2 hbg (bg_V bw_252 bw_253 bw_22 bw_34 bw_254) rfl rfl rfl (by decide +kernel) ⟨Nat.le_of_ble_eq_true rfl, Nat.le_of_ble_eq_true rfl⟩) hK [0] rfl hP hD hS hA [0, 1, 2] [] rfl rfl rfl rfl (by decide) rfl rfl rfl hl.1 rfl (Nat.le_of_ble_eq_true rfl) dX_word_4 ⟨Nat.le_of_ble_eq_true rfl, Nat.le_of_ble_eq_true rfl⟩ (fun H locs hP hD hS => ?_)
  have hP : va_P D vwC (wX h rr cc cI N R C li us ob sl go gi fr la re) H := hP
  have hD : va_D A (wX h rr cc cI N R C li us ob sl go gi fr la re) := hD
  refine sy_cVi (wc := wX h rr cc cI N R C li us ob sl go gi fr la re) (wr := []) (w1 := wX h rr cc cI N R C li us ob sl go gi fr la re) (ci := 0) (q0 := 0) (As := [.int (a + 3 + sr_fi N C a + f)]) (rest := []) ⟨hx, hb, hml, hown, hbg⟩ (ct_X_read l D h rr cc cI N R C li us ob sl go gi fr la re H.size (a + 3 + sr_fi N C a + f) hN) (cwV 1 hbg (bg_V bw_90 bw_91 bw_4 bw_34 bw_92) rfl rfl rfl (by decide +kernel) ⟨Nat.le_of_ble_eq_true rfl, Nat.le_of_ble_eq_true rfl⟩) hK [0] rfl hP hD hS hA [0, 1, 2] [] rfl rfl rfl rfl (by decide) rfl rfl rfl hl.1 rfl (Nat.le_of_ble_eq_true rfl) dX_word_7 ⟨Nat.le_of_ble_eq_true rfl, Nat.le_of_ble_eq_true rfl⟩ (fun H locs hP hD hS => ?_)
  have hP : va_P D vwC (wX h rr cc cI N R C li us ob sl go gi fr la re) H := hP
  have hD : va_D A (wX h rr cc cI N R C li us ob sl go gi fr la re) := hD
  refine W.widen (k := 0) (n := 0) (Nat.le_of_ble_eq_true rfl) (Nat.le_of_ble_eq_true rfl) ?_
  exact W.iret (v := sr_rd N C (a + 3 + sr_fi N C a + f)) hx hb hr (fun t ht hW => ⟨⟨sr_rd N C (a + 3 + sr_fi N C a + f), (), rfl, rfl, by rw [ht]; exact hP, va_K.moved hW.alike hK, hD⟩, hS.F ht⟩) hS.2.2 dX_word_10

set_option maxHeartbeats 4000000 in
set_option maxRecDepth 100000 in
theorem ct_X_word_b (l : Launch) (D : va_G) (h rr cc : Nat) (cI : ClassId) (N : Nat) (R C : Nat → Int32) (li us ob sl go gi fr la re : Int32) (sz : Nat) (a f : Int32) (hN : N < 2 ^ 31) (hst : l.stackTraces = false) (hg : sr_isO N C a ob.toNatClampNeg 1 = false ∨ (sr_isO N C a ob.toNatClampNeg 1 = true ∧ (f < 0 ∨ ¬ f < sr_wi N C a))) : sy_Mx l yX_word (Cond.code yX_word bX_word 3 (some .int) :: sr_big) { frames := 8, cells := 1, slots := 6, locals := 133 } D vwC [(cI, .int)] [.ref h, .int a, .int f] (wX h rr cc cI N R C li us ob sl go gi fr la re) sz sx_NSE 1 6 := by
  refine vx_ofW (cc := bX_word) (maxL := 3) (ret := (some .int)) (by decide) rfl ?_
  intro p e s m args below meth c s₁ B hml htab hv
  obtain ⟨rfl, ⟨hsz, hP, hK, hD0⟩, hG⟩ := hv
  have hx := B.exec
  have hb := B.bytes
  have hr := B.returns
  have hbg : ∀ w ∈ sr_big, w.before _ s = true := fun w h => atoms_spec (ws := Cond.code yX_word bX_word 3 (some .int) :: sr_big) B.pre w (List.mem_cons_of_mem _ h)
  have hown : s.vm.findClass RX = some m.cls := findClass_of_methodNamed B.named
  have hlocks := B.notSynchronized
  subst hsz
  have hD := hD0.self (sz := s.heap.size)
  generalize hAe : va_A (wX h rr cc cI N R C li us ob sl go gi fr la re) s.heap.size = A at *
  have hA : ∀ q : Nat, s.heap.size ≤ q → A q := fun q h => by rw [← hAe]; exact Or.inr h
  have hS : va_S A s.heap s.heap [] := va_S.rf
  have hl := lv_entry ([.ref h, .int a, .int f]) (n := 3) (Nat.le_of_ble_eq_true rfl)
  rw [lg_entry_eq]
  generalize (lg_sl ([.ref h, .int a, .int f]) ++ List.replicate (3 - (lg_sl ([.ref h, .int a, .int f])).length) Slot.unset).toArray = ls at hl ⊢
  have hl : lv_has ls 3 [(0, .ref h), (1, .int a), (2, .int f)] := hl
  refine lv_aload_n hx hb dX_word_0 rfl (lv_at hl 0 rfl) ?_
  refine lv_aload_n hx hb dX_word_1 rfl (lv_at hl 0 rfl) ?_
  refine lv_iload_n hx hb dX_word_2 rfl (lv_at hl 1 rfl) ?_
  refine lv_iload_n hx hb dX_word_3 rfl (lv_at hl 2 rfl) ?_
  refine sy_cVx (wc := wX h rr cc cI N R C li us ob sl go gi fr la re) (wr := []) (ci := 0) (q0 := 0) (As := [.int a, .int f]) (rest := [.ref h]) ⟨hx, hb, hml, hown, hbg⟩ (ct_X_wordCell_b l D h rr cc cI N R C li us ob sl go gi fr la re s.heap.size a f hN hst hg) (cwV 2 hbg (bg_V bw_252 bw_253 bw_22 bw_34 bw_254) rfl rfl rfl (by decide +kernel) ⟨Nat.le_of_ble_eq_true rfl, Nat.le_of_ble_eq_true rfl⟩) hK [0] rfl hP hD hS hA hG [0, 1, 2] [] rfl rfl rfl rfl (by decide) rfl rfl rfl hl.1 rfl (Nat.le_of_ble_eq_true rfl) dX_word_4 ⟨Nat.le_of_ble_eq_true rfl, Nat.le_of_ble_eq_true rfl⟩ (fun q ce H locs hP hD hS hcell hcv hcl => ?_)
  exact sy_outx htab hlocks hP hK hD hS hcell hcv hcl (Nat.le_of_ble_eq_true rfl) (Nat.le_of_ble_eq_true rfl)

set_option maxHeartbeats 4000000 in
set_option maxRecDepth 100000 in
theorem ct_X_put_k (l : Launch) (D : va_G) (h rr cc : Nat) (cI : ClassId) (N : Nat) (R C : Nat → Int32) (li us ob sl go gi fr la re : Int32) (sz : Nat) (a f v : Int32) (hN : N < 2 ^ 31) (hg : sr_isO N C a ob.toNatClampNeg 1 = true) (h1 : ¬ f < 0) (h2 : f < sr_wi N C a) : sy_Mi l yX_put (Cond.code yX_put bX_put 4 (some .int) :: sr_big) { frames := 8, cells := 0, slots := 0, locals := 133 } D vwC [(cI, .int)] [.ref h, .int a, .int f, .int v] (wX h rr cc cI N R C li us ob sl go gi fr la re) sz (sr_rd N C (a + 3 + sr_fi N C a + f)) (wX h rr cc cI N R (sr_wr N C (a + 3 + sr_fi N C a + f) v) li us ob sl go gi fr la re) 0 0 := by
  refine Met.ofW (cc := bX_put) (maxL := 4) (ret := (some .int)) (by decide) rfl ?_
  intro p e s m args below meth c s₁ B hml hv
  obtain ⟨rfl, hsz, hP, hK, hD0⟩ := hv
  have hx := B.exec
  have hb := B.bytes
  have hr := B.returns
  have hbg : ∀ w ∈ sr_big, w.before _ s = true := fun w h => atoms_spec (ws := Cond.code yX_put bX_put 4 (some .int) :: sr_big) B.pre w (List.mem_cons_of_mem _ h)
  have hown : s.vm.findClass RX = some m.cls := findClass_of_methodNamed B.named
  have hlocks := B.notSynchronized
  subst hsz
  have hD := hD0.self (sz := s.heap.size)
  generalize hAe : va_A (wX h rr cc cI N R C li us ob sl go gi fr la re) s.heap.size = A at *
  have hA : ∀ q : Nat, s.heap.size ≤ q → A q := fun q h => by rw [← hAe]; exact Or.inr h
  have hS : va_S A s.heap s.heap [] := va_S.rf
  have hl := lv_entry ([.ref h, .int a, .int f, .int v]) (n := 4) (Nat.le_of_ble_eq_true rfl)
  rw [lg_entry_eq]
  generalize (lg_sl ([.ref h, .int a, .int f, .int v]) ++ List.replicate (4 - (lg_sl ([.ref h, .int a, .int f, .int v])).length) Slot.unset).toArray = ls at hl ⊢
  have hl : lv_has ls 4 [(0, .ref h), (1, .int a), (2, .int f), (3, .int v)] := hl
  refine lv_aload_n hx hb dX_put_0 rfl (lv_at hl 0 rfl) ?_
  refine lv_aload_n hx hb dX_put_1 rfl (lv_at hl 0 rfl) ?_
  refine lv_iload_n hx hb dX_put_2 rfl (lv_at hl 1 rfl) ?_
  refine lv_iload_n hx hb dX_put_3 rfl (lv_at hl 2 rfl) ?_
  refine sy_cVi (wc := wX h rr cc cI N R C li us ob sl go gi fr la re) (wr := []) (w1 := wX h rr cc cI N R C li us ob sl go gi fr la re) (ci := 0) (q0 := 0) (As := [.int a, .int f]) (rest := [.ref h]) ⟨hx, hb, hml, hown, hbg⟩ (ct_X_wordCell_k l D h rr cc cI N R C li us ob sl go gi fr la re s.heap.size a f hN hg h1 h2) (cwV 2 hbg (bg_V bw_252 bw_253 bw_22 bw_34 bw_254) rfl rfl rfl (by decide +kernel) ⟨Nat.le_of_ble_eq_true rfl, Nat.le_of_ble_eq_true rfl⟩) hK [0] rfl hP hD hS hA [0, 1, 2] [] rfl rfl rfl rfl (by decide) rfl rfl rfl hl.1 rfl (Nat.le_of_ble_eq_true rfl) dX_put_4 ⟨Nat.le_of_ble_eq_true rfl, Nat.le_of_ble_eq_true rfl⟩ (fun H locs hP hD hS => ?_)
  have hP : va_P D vwC (wX h rr cc cI N R C li us ob sl go gi fr la re) H := hP
  have hD : va_D A (wX h rr cc cI N R C li us ob sl go gi fr la re) := hD
  refine lv_iload_n hx hb dX_put_7 rfl (lv_at hl 3 rfl) ?_
  refine sy_cVi (wc := wX h rr cc cI N R C li us ob sl go gi fr la re) (wr := []) (w1 := wX h rr cc cI N R (sr_wr N C (a + 3 + sr_fi N C a + f) v) li us ob sl go gi fr la re) (ci := 0) (q0 := 0) (As := [.int (a + 3 + sr_fi N C a + f), .int v]) (rest := []) ⟨hx, hb, hml, hown, hbg⟩ (ct_X_replace l D h rr cc cI N R C li us ob sl go gi fr la re H.size (a + 3 + sr_fi N C a + f) v hN) (cwV 2 hbg (bg_V bw_235 bw_236 bw_21 bw_34 bw_237) rfl rfl rfl (by decide +kernel) ⟨Nat.le_of_ble_eq_true rfl, Nat.le_of_ble_eq_true rfl⟩) hK [0] rfl hP hD hS hA [0, 1, 2] [] rfl rfl rfl rfl (by decide) rfl rfl rfl hl.1 rfl (Nat.le_of_ble_eq_true rfl) dX_put_8 ⟨Nat.le_of_ble_eq_true rfl, Nat.le_of_ble_eq_true rfl⟩ (fun H locs hP hD hS => ?_)
  have hP : va_P D vwC (wX h rr cc cI N R (sr_wr N C (a + 3 + sr_fi N C a + f) v) li us ob sl go gi fr la re) H := hP
  have hD : va_D A (wX h rr cc cI N R (sr_wr N C (a + 3 + sr_fi N C a + f) v) li us ob sl go gi fr la re) := hD
  refine W.widen (k := 0) (n := 0) (Nat.le_of_ble_eq_true rfl) (Nat.le_of_ble_eq_true rfl) ?_
  exact W.iret (v := sr_rd N C (a + 3 + sr_fi N C a + f)) hx hb hr (fun t ht hW => ⟨⟨sr_rd N C (a + 3 + sr_fi N C a + f), (), rfl, rfl, by rw [ht]; exact hP, va_K.moved hW.alike hK, hD⟩, hS.F ht⟩) hS.2.2 dX_put_11

set_option maxHeartbeats 4000000 in
set_option maxRecDepth 100000 in
theorem ct_X_put_b (l : Launch) (D : va_G) (h rr cc : Nat) (cI : ClassId) (N : Nat) (R C : Nat → Int32) (li us ob sl go gi fr la re : Int32) (sz : Nat) (a f v : Int32) (hN : N < 2 ^ 31) (hst : l.stackTraces = false) (hg : sr_isO N C a ob.toNatClampNeg 1 = false ∨ (sr_isO N C a ob.toNatClampNeg 1 = true ∧ (f < 0 ∨ ¬ f < sr_wi N C a))) : sy_Mx l yX_put (Cond.code yX_put bX_put 4 (some .int) :: sr_big) { frames := 8, cells := 1, slots := 6, locals := 133 } D vwC [(cI, .int)] [.ref h, .int a, .int f, .int v] (wX h rr cc cI N R C li us ob sl go gi fr la re) sz sx_NSE 1 6 := by
  refine vx_ofW (cc := bX_put) (maxL := 4) (ret := (some .int)) (by decide) rfl ?_
  intro p e s m args below meth c s₁ B hml htab hv
  obtain ⟨rfl, ⟨hsz, hP, hK, hD0⟩, hG⟩ := hv
  have hx := B.exec
  have hb := B.bytes
  have hr := B.returns
  have hbg : ∀ w ∈ sr_big, w.before _ s = true := fun w h => atoms_spec (ws := Cond.code yX_put bX_put 4 (some .int) :: sr_big) B.pre w (List.mem_cons_of_mem _ h)
  have hown : s.vm.findClass RX = some m.cls := findClass_of_methodNamed B.named
  have hlocks := B.notSynchronized
  subst hsz
  have hD := hD0.self (sz := s.heap.size)
  generalize hAe : va_A (wX h rr cc cI N R C li us ob sl go gi fr la re) s.heap.size = A at *
  have hA : ∀ q : Nat, s.heap.size ≤ q → A q := fun q h => by rw [← hAe]; exact Or.inr h
  have hS : va_S A s.heap s.heap [] := va_S.rf
  have hl := lv_entry ([.ref h, .int a, .int f, .int v]) (n := 4) (Nat.le_of_ble_eq_true rfl)
  rw [lg_entry_eq]
  generalize (lg_sl ([.ref h, .int a, .int f, .int v]) ++ List.replicate (4 - (lg_sl ([.ref h, .int a, .int f, .int v])).length) Slot.unset).toArray = ls at hl ⊢
  have hl : lv_has ls 4 [(0, .ref h), (1, .int a), (2, .int f), (3, .int v)] := hl
  refine lv_aload_n hx hb dX_put_0 rfl (lv_at hl 0 rfl) ?_
  refine lv_aload_n hx hb dX_put_1 rfl (lv_at hl 0 rfl) ?_
  refine lv_iload_n hx hb dX_put_2 rfl (lv_at hl 1 rfl) ?_
  refine lv_iload_n hx hb dX_put_3 rfl (lv_at hl 2 rfl) ?_
  refine sy_cVx (wc := wX h rr cc cI N R C li us ob sl go gi fr la re) (wr := []) (ci := 0) (q0 := 0) (As := [.int a, .int f]) (rest := [.ref h]) ⟨hx, hb, hml, hown, hbg⟩ (ct_X_wordCell_b l D h rr cc cI N R C li us ob sl go gi fr la re s.heap.size a f hN hst hg) (cwV 2 hbg (bg_V bw_252 bw_253 bw_22 bw_34 bw_254) rfl rfl rfl (by decide +kernel) ⟨Nat.le_of_ble_eq_true rfl, Nat.le_of_ble_eq_true rfl⟩) hK [0] rfl hP hD hS hA hG [0, 1, 2] [] rfl rfl rfl rfl (by decide) rfl rfl rfl hl.1 rfl (Nat.le_of_ble_eq_true rfl) dX_put_4 ⟨Nat.le_of_ble_eq_true rfl, Nat.le_of_ble_eq_true rfl⟩ (fun q ce H locs hP hD hS hcell hcv hcl => ?_)
  exact sy_outx htab hlocks hP hK hD hS hcell hcv hcl (Nat.le_of_ble_eq_true rfl) (Nat.le_of_ble_eq_true rfl)

set_option maxHeartbeats 4000000 in
set_option maxRecDepth 100000 in
theorem ct_X_set_k (l : Launch) (D : va_G) (h rr cc : Nat) (cI : ClassId) (N : Nat) (R C : Nat → Int32) (li us ob sl go gi fr la re : Int32) (sz : Nat) (a f b : Int32) (hN : N < 2 ^ 31) (hg : sr_isO N C a ob.toNatClampNeg 1 = true) (h1 : ¬ f < 0) (h2 : f < sr_fi N C a) (h3 : b = 0 ∨ sr_isO N C b ob.toNatClampNeg 1 = true) : sy_Mi l yX_set (Cond.code yX_set bX_set 5 (some .int) :: sr_big) { frames := 8, cells := 0, slots := 0, locals := 133 } D vwC [(cI, .int)] [.ref h, .int a, .int f, .int b] (wX h rr cc cI N R C li us ob sl go gi fr la re) sz (sr_rd N C (a + 3 + f)) (wX h rr cc cI N R (sr_wr N C (a + 3 + f) b) li us ob sl go gi fr la re) 0 0 := by
  refine Met.ofW (cc := bX_set) (maxL := 5) (ret := (some .int)) (by decide) rfl ?_
  intro p e s m args below meth c s₁ B hml hv
  obtain ⟨rfl, hsz, hP, hK, hD0⟩ := hv
  have hx := B.exec
  have hb := B.bytes
  have hr := B.returns
  have hbg : ∀ w ∈ sr_big, w.before _ s = true := fun w h => atoms_spec (ws := Cond.code yX_set bX_set 5 (some .int) :: sr_big) B.pre w (List.mem_cons_of_mem _ h)
  have hown : s.vm.findClass RX = some m.cls := findClass_of_methodNamed B.named
  have hlocks := B.notSynchronized
  subst hsz
  have hD := hD0.self (sz := s.heap.size)
  generalize hAe : va_A (wX h rr cc cI N R C li us ob sl go gi fr la re) s.heap.size = A at *
  have hA : ∀ q : Nat, s.heap.size ≤ q → A q := fun q h => by rw [← hAe]; exact Or.inr h
  have hS : va_S A s.heap s.heap [] := va_S.rf
  have hl := lv_entry ([.ref h, .int a, .int f, .int b]) (n := 5) (Nat.le_of_ble_eq_true rfl)
  rw [lg_entry_eq]
  generalize (lg_sl ([.ref h, .int a, .int f, .int b]) ++ List.replicate (5 - (lg_sl ([.ref h, .int a, .int f, .int b])).length) Slot.unset).toArray = ls at hl ⊢
  have hl : lv_has ls 5 [(0, .ref h), (1, .int a), (2, .int f), (3, .int b)] := hl
  refine lv_aload_n hx hb dX_set_0 rfl (lv_at hl 0 rfl) ?_
  refine lv_iload_n hx hb dX_set_1 rfl (lv_at hl 1 rfl) ?_
  refine lv_iload_n hx hb dX_set_2 rfl (lv_at hl 2 rfl) ?_
  refine sy_cVi (wc := wX h rr cc cI N R C li us ob sl go gi fr la re) (wr := []) (w1 := wX h rr cc cI N R C li us ob sl go gi fr la re) (ci := 0) (q0 := 0) (As := [.int a, .int f]) (rest := []) ⟨hx, hb, hml, hown, hbg⟩ (ct_X_fieldCell_k l D h rr cc cI N R C li us ob sl go gi fr la re s.heap.size a f hN hg h1 h2) (cwV 2 hbg (bg_V bw_210 bw_211 bw_17 bw_34 bw_212) rfl rfl rfl (by decide +kernel) ⟨Nat.le_of_ble_eq_true rfl, Nat.le_of_ble_eq_true rfl⟩) hK [0] rfl hP hD hS hA [0, 1, 2] [] rfl rfl rfl rfl (by decide) rfl rfl rfl hl.1 rfl (Nat.le_of_ble_eq_true rfl) dX_set_3 ⟨Nat.le_of_ble_eq_true rfl, Nat.le_of_ble_eq_true rfl⟩ (fun H locs hP hD hS => ?_)
  have hP : va_P D vwC (wX h rr cc cI N R C li us ob sl go gi fr la re) H := hP
  have hD : va_D A (wX h rr cc cI N R C li us ob sl go gi fr la re) := hD
  refine lv_istore (lv' := [(4, .int (a + 3 + f)), (0, .ref h), (1, .int a), (2, .int f), (3, .int b)]) hx hb dX_set_6 hl (by decide) rfl (fun ls hl => ?_)
  refine lv_aload_n hx hb dX_set_8 rfl (lv_at hl 1 rfl) ?_
  refine lv_iload_n hx hb dX_set_9 rfl (lv_at hl 4 rfl) ?_
  refine sy_cVv (wc := wX h rr cc cI N R C li us ob sl go gi fr la re) (wr := []) (w1 := wX h rr cc cI N R C li us ob sl go gi fr la re) (ci := 0) (q0 := 0) (As := [.int b]) (rest := []) ⟨hx, hb, hml, hown, hbg⟩ (ct_X_needObjectOrNothing_k l D h rr cc cI N R C li us ob sl go gi fr la re H.size b hN h3) (cwV 1 hbg (bg_V bw_232 bw_233 bw_20 bw_34 bw_234) rfl rfl rfl (by decide +kernel) ⟨Nat.le_of_ble_eq_true rfl, Nat.le_of_ble_eq_true rfl⟩) hK [0] rfl hP hD hS hA [0, 1, 2] [] rfl rfl rfl rfl (by decide) rfl rfl rfl hl.1 rfl (Nat.le_of_ble_eq_true rfl) dX_set_10 ⟨Nat.le_of_ble_eq_true rfl, Nat.le_of_ble_eq_true rfl⟩ (fun H locs hP hD hS => ?_)
  have hP : va_P D vwC (wX h rr cc cI N R C li us ob sl go gi fr la re) H := hP
  have hD : va_D A (wX h rr cc cI N R C li us ob sl go gi fr la re) := hD
  refine lv_aload_n hx hb dX_set_13 rfl (lv_at hl 1 rfl) ?_
  refine lv_iload hx hb dX_set_14 (lv_at hl 0 rfl) ?_
  refine lv_iload_n hx hb dX_set_16 rfl (lv_at hl 4 rfl) ?_
  refine sy_cVi (wc := wX h rr cc cI N R C li us ob sl go gi fr la re) (wr := []) (w1 := wX h rr cc cI N R (sr_wr N C (a + 3 + f) b) li us ob sl go gi fr la re) (ci := 0) (q0 := 0) (As := [.int (a + 3 + f), .int b]) (rest := []) ⟨hx, hb, hml, hown, hbg⟩ (ct_X_replace l D h rr cc cI N R C li us ob sl go gi fr la re H.size (a + 3 + f) b hN) (cwV 2 hbg (bg_V bw_235 bw_236 bw_21 bw_34 bw_237) rfl rfl rfl (by decide +kernel) ⟨Nat.le_of_ble_eq_true rfl, Nat.le_of_ble_eq_true rfl⟩) hK [0] rfl hP hD hS hA [0, 1, 2] [] rfl rfl rfl rfl (by decide) rfl rfl rfl hl.1 rfl (Nat.le_of_ble_eq_true rfl) dX_set_17 ⟨Nat.le_of_ble_eq_true rfl, Nat.le_of_ble_eq_true rfl⟩ (fun H locs hP hD hS => ?_)
  have hP : va_P D vwC (wX h rr cc cI N R (sr_wr N C (a + 3 + f) b) li us ob sl go gi fr la re) H := hP
  have hD : va_D A (wX h rr cc cI N R (sr_wr N C (a + 3 + f) b) li us ob sl go gi fr la re) := hD
  refine W.widen (k := 0) (n := 0) (Nat.le_of_ble_eq_true rfl) (Nat.le_of_ble_eq_true rfl) ?_
  exact W.iret (v := sr_rd N C (a + 3 + f)) hx hb hr (fun t ht hW => ⟨⟨sr_rd N C (a + 3 + f), (), rfl, rfl, by rw [ht]; exact hP, va_K.moved hW.alike hK, hD⟩, hS.F ht⟩) hS.2.2 dX_set_20

set_option maxHeartbeats 4000000 in
set_option maxRecDepth 100000 in
theorem ct_X_set_b1 (l : Launch) (D : va_G) (h rr cc : Nat) (cI : ClassId) (N : Nat) (R C : Nat → Int32) (li us ob sl go gi fr la re : Int32) (sz : Nat) (a f b : Int32) (hN : N < 2 ^ 31) (hst : l.stackTraces = false) (hg : sr_isO N C a ob.toNatClampNeg 1 = false ∨ (sr_isO N C a ob.toNatClampNeg 1 = true ∧ (f < 0 ∨ ¬ f < sr_fi N C a))) : sy_Mx l yX_set (Cond.code yX_set bX_set 5 (some .int) :: sr_big) { frames := 8, cells := 1, slots := 6, locals := 133 } D vwC [(cI, .int)] [.ref h, .int a, .int f, .int b] (wX h rr cc cI N R C li us ob sl go gi fr la re) sz sx_NSE 1 6 := by
  refine vx_ofW (cc := bX_set) (maxL := 5) (ret := (some .int)) (by decide) rfl ?_
  intro p e s m args below meth c s₁ B hml htab hv
  obtain ⟨rfl, ⟨hsz, hP, hK, hD0⟩, hG⟩ := hv
  have hx := B.exec
  have hb := B.bytes
  have hr := B.returns
  have hbg : ∀ w ∈ sr_big, w.before _ s = true := fun w h => atoms_spec (ws := Cond.code yX_set bX_set 5 (some .int) :: sr_big) B.pre w (List.mem_cons_of_mem _ h)
  have hown : s.vm.findClass RX = some m.cls := findClass_of_methodNamed B.named
  have hlocks := B.notSynchronized
  subst hsz
  have hD := hD0.self (sz := s.heap.size)
  generalize hAe : va_A (wX h rr cc cI N R C li us ob sl go gi fr la re) s.heap.size = A at *
  have hA : ∀ q : Nat, s.heap.size ≤ q → A q := fun q h => by rw [← hAe]; exact Or.inr h
  have hS : va_S A s.heap s.heap [] := va_S.rf
  have hl := lv_entry ([.ref h, .int a, .int f, .int b]) (n := 5) (Nat.le_of_ble_eq_true rfl)
  rw [lg_entry_eq]
  generalize (lg_sl ([.ref h, .int a, .int f, .int b]) ++ List.replicate (5 - (lg_sl ([.ref h, .int a, .int f, .int b])).length) Slot.unset).toArray = ls at hl ⊢
  have hl : lv_has ls 5 [(0, .ref h), (1, .int a), (2, .int f), (3, .int b)] := hl
  refine lv_aload_n hx hb dX_set_0 rfl (lv_at hl 0 rfl) ?_
  refine lv_iload_n hx hb dX_set_1 rfl (lv_at hl 1 rfl) ?_
  refine lv_iload_n hx hb dX_set_2 rfl (lv_at hl 2 rfl) ?_
  refine sy_cVx (wc := wX h rr cc cI N R C li us ob sl go gi fr la re) (wr := []) (ci := 0) (q0 := 0) (As := [.int a, .int f]) (rest := []) ⟨hx, hb, hml, hown, hbg⟩ (ct_X_fieldCell_b l D h rr cc cI N R C li us ob sl go gi fr la re s.heap.size a f hN hst hg) (cwV 2 hbg (bg_V bw_210 bw_211 bw_17 bw_34 bw_212) rfl rfl rfl (by decide +kernel) ⟨Nat.le_of_ble_eq_true rfl, Nat.le_of_ble_eq_true rfl⟩) hK [0] rfl hP hD hS hA hG [0, 1, 2] [] rfl rfl rfl rfl (by decide) rfl rfl rfl hl.1 rfl (Nat.le_of_ble_eq_true rfl) dX_set_3 ⟨Nat.le_of_ble_eq_true rfl, Nat.le_of_ble_eq_true rfl⟩ (fun q ce H locs hP hD hS hcell hcv hcl => ?_)
  exact sy_outx htab hlocks hP hK hD hS hcell hcv hcl (Nat.le_of_ble_eq_true rfl) (Nat.le_of_ble_eq_true rfl)

set_option maxHeartbeats 4000000 in
set_option maxRecDepth 100000 in
theorem ct_X_set_b2 (l : Launch) (D : va_G) (h rr cc : Nat) (cI : ClassId) (N : Nat) (R C : Nat → Int32) (li us ob sl go gi fr la re : Int32) (sz : Nat) (a f b : Int32) (hN : N < 2 ^ 31) (hst : l.stackTraces = false) (hg : sr_isO N C a ob.toNatClampNeg 1 = true) (h1 : ¬ f < 0) (h2 : f < sr_fi N C a) (h0 : ¬ b = 0) (h3 : sr_isO N C b ob.toNatClampNeg 1 = false) : sy_Mx l yX_set (Cond.code yX_set bX_set 5 (some .int) :: sr_big) { frames := 8, cells := 1, slots := 6, locals := 133 } D vwC [(cI, .int)] [.ref h, .int a, .int f, .int b] (wX h rr cc cI N R C li us ob sl go gi fr la re) sz sx_NSE 1 6 := by
  refine vx_ofW (cc := bX_set) (maxL := 5) (ret := (some .int)) (by decide) rfl ?_
  intro p e s m args below meth c s₁ B hml htab hv
  obtain ⟨rfl, ⟨hsz, hP, hK, hD0⟩, hG⟩ := hv
  have hx := B.exec
  have hb := B.bytes
  have hr := B.returns
  have hbg : ∀ w ∈ sr_big, w.before _ s = true := fun w h => atoms_spec (ws := Cond.code yX_set bX_set 5 (some .int) :: sr_big) B.pre w (List.mem_cons_of_mem _ h)
  have hown : s.vm.findClass RX = some m.cls := findClass_of_methodNamed B.named
  have hlocks := B.notSynchronized
  subst hsz
  have hD := hD0.self (sz := s.heap.size)
  generalize hAe : va_A (wX h rr cc cI N R C li us ob sl go gi fr la re) s.heap.size = A at *
  have hA : ∀ q : Nat, s.heap.size ≤ q → A q := fun q h => by rw [← hAe]; exact Or.inr h
  have hS : va_S A s.heap s.heap [] := va_S.rf
  have hl := lv_entry ([.ref h, .int a, .int f, .int b]) (n := 5) (Nat.le_of_ble_eq_true rfl)
  rw [lg_entry_eq]
  generalize (lg_sl ([.ref h, .int a, .int f, .int b]) ++ List.replicate (5 - (lg_sl ([.ref h, .int a, .int f, .int b])).length) Slot.unset).toArray = ls at hl ⊢
  have hl : lv_has ls 5 [(0, .ref h), (1, .int a), (2, .int f), (3, .int b)] := hl
  refine lv_aload_n hx hb dX_set_0 rfl (lv_at hl 0 rfl) ?_
  refine lv_iload_n hx hb dX_set_1 rfl (lv_at hl 1 rfl) ?_
  refine lv_iload_n hx hb dX_set_2 rfl (lv_at hl 2 rfl) ?_
  refine sy_cVi (wc := wX h rr cc cI N R C li us ob sl go gi fr la re) (wr := []) (w1 := wX h rr cc cI N R C li us ob sl go gi fr la re) (ci := 0) (q0 := 0) (As := [.int a, .int f]) (rest := []) ⟨hx, hb, hml, hown, hbg⟩ (ct_X_fieldCell_k l D h rr cc cI N R C li us ob sl go gi fr la re s.heap.size a f hN hg h1 h2) (cwV 2 hbg (bg_V bw_210 bw_211 bw_17 bw_34 bw_212) rfl rfl rfl (by decide +kernel) ⟨Nat.le_of_ble_eq_true rfl, Nat.le_of_ble_eq_true rfl⟩) hK [0] rfl hP hD hS hA [0, 1, 2] [] rfl rfl rfl rfl (by decide) rfl rfl rfl hl.1 rfl (Nat.le_of_ble_eq_true rfl) dX_set_3 ⟨Nat.le_of_ble_eq_true rfl, Nat.le_of_ble_eq_true rfl⟩ (fun H locs hP hD hS => ?_)
  have hP : va_P D vwC (wX h rr cc cI N R C li us ob sl go gi fr la re) H := hP
  have hD : va_D A (wX h rr cc cI N R C li us ob sl go gi fr la re) := hD
  refine lv_istore (lv' := [(4, .int (a + 3 + f)), (0, .ref h), (1, .int a), (2, .int f), (3, .int b)]) hx hb dX_set_6 hl (by decide) rfl (fun ls hl => ?_)
  refine lv_aload_n hx hb dX_set_8 rfl (lv_at hl 1 rfl) ?_
  refine lv_iload_n hx hb dX_set_9 rfl (lv_at hl 4 rfl) ?_
  refine sy_cVx (wc := wX h rr cc cI N R C li us ob sl go gi fr la re) (wr := []) (ci := 0) (q0 := 0) (As := [.int b]) (rest := []) ⟨hx, hb, hml, hown, hbg⟩ (ct_X_needObjectOrNothing_b l D h rr cc cI N R C li us ob sl go gi fr la re H.size b hN hst h0 h3) (cwV 1 hbg (bg_V bw_232 bw_233 bw_20 bw_34 bw_234) rfl rfl rfl (by decide +kernel) ⟨Nat.le_of_ble_eq_true rfl, Nat.le_of_ble_eq_true rfl⟩) hK [0] rfl hP hD hS hA hG [0, 1, 2] [] rfl rfl rfl rfl (by decide) rfl rfl rfl hl.1 rfl (Nat.le_of_ble_eq_true rfl) dX_set_10 ⟨Nat.le_of_ble_eq_true rfl, Nat.le_of_ble_eq_true rfl⟩ (fun q ce H locs hP hD hS hcell hcv hcl => ?_)
  exact sy_outx htab hlocks hP hK hD hS hcell hcv hcl (Nat.le_of_ble_eq_true rfl) (Nat.le_of_ble_eq_true rfl)

theorem sr_vin0 {x : Int32} (h1 : ¬ x < 0) (h2 : x < nI 16) : vp_in x 16 := by
  have e0 : (0 : Int32).toInt = 0 := by decide
  rw [vp_in_iff]
  rw [Int32.lt_iff_toInt_lt, e0] at h1
  rw [Int32.lt_iff_toInt_lt, nI_toInt (by omega)] at h2
  omega

set_option maxHeartbeats 4000000 in
set_option maxRecDepth 100000 in
theorem ct_X_rooted_k (l : Launch) (D : va_G) (h rr cc : Nat) (cI : ClassId) (N : Nat) (R C : Nat → Int32) (li us ob sl go gi fr la re : Int32) (sz : Nat) (x : Int32) (hN : N < 2 ^ 31) (h1 : ¬ x < 0) (h2 : x < nI 16) : sy_Mi l yX_rooted (Cond.code yX_rooted bX_rooted 2 (some .int) :: sr_big) { frames := 7, cells := 0, slots := 0, locals := 111 } D vwC [(cI, .int)] [.ref h, .int x] (wX h rr cc cI N R C li us ob sl go gi fr la re) sz (R x.toNatClampNeg) (wX h rr cc cI N R C li us ob sl go gi fr la re) 0 0 := by
  refine Met.ofW (cc := bX_rooted) (maxL := 2) (ret := (some .int)) (by decide) rfl ?_
  intro p e s m args below meth c s₁ B hml hv
  obtain ⟨rfl, hsz, hP, hK, hD0⟩ := hv
  have hx := B.exec
  have hb := B.bytes
  have hr := B.returns
  have hbg : ∀ w ∈ sr_big, w.before _ s = true := fun w h => atoms_spec (ws := Cond.code yX_rooted bX_rooted 2 (some .int) :: sr_big) B.pre w (List.mem_cons_of_mem _ h)
  have hown : s.vm.findClass RX = some m.cls := findClass_of_methodNamed B.named
  have hlocks := B.notSynchronized
  subst hsz
  have hD := hD0.self (sz := s.heap.size)
  generalize hAe : va_A (wX h rr cc cI N R C li us ob sl go gi fr la re) s.heap.size = A at *
  have hA : ∀ q : Nat, s.heap.size ≤ q → A q := fun q h => by rw [← hAe]; exact Or.inr h
  have hS : va_S A s.heap s.heap [] := va_S.rf
  have hl := lv_entry ([.ref h, .int x]) (n := 2) (Nat.le_of_ble_eq_true rfl)
  rw [lg_entry_eq]
  generalize (lg_sl ([.ref h, .int x]) ++ List.replicate (2 - (lg_sl ([.ref h, .int x])).length) Slot.unset).toArray = ls at hl ⊢
  have hl : lv_has ls 2 [(0, .ref h), (1, .int x)] := hl
  refine lv_aload_n hx hb dX_rooted_0 rfl (lv_at hl 0 rfl) ?_
  refine lv_iload_n hx hb dX_rooted_1 rfl (lv_at hl 1 rfl) ?_
  refine sy_cVv (wc := wX h rr cc cI N R C li us ob sl go gi fr la re) (wr := []) (w1 := wX h rr cc cI N R C li us ob sl go gi fr la re) (ci := 0) (q0 := 0) (As := [.int x]) (rest := []) ⟨hx, hb, hml, hown, hbg⟩ (ct_X_needRoot_k l D h rr cc cI N R C li us ob sl go gi fr la re s.heap.size x hN h1 h2) (cwV 1 hbg (bg_V bw_272 bw_273 bw_24 bw_34 bw_274) rfl rfl rfl (by decide +kernel) ⟨Nat.le_of_ble_eq_true rfl, Nat.le_of_ble_eq_true rfl⟩) hK [0] rfl hP hD hS hA [0, 1, 2] [] rfl rfl rfl rfl (by decide) rfl rfl rfl hl.1 rfl (Nat.le_of_ble_eq_true rfl) dX_rooted_2 ⟨Nat.le_of_ble_eq_true rfl, Nat.le_of_ble_eq_true rfl⟩ (fun H locs hP hD hS => ?_)
  have hP : va_P D vwC (wX h rr cc cI N R C li us ob sl go gi fr la re) H := hP
  have hD : va_D A (wX h rr cc cI N R C li us ob sl go gi fr la re) := hD
  refine lv_aload_n hx hb dX_rooted_5 rfl (lv_at hl 0 rfl) ?_
  refine va_get (D := D) (ci := 0) (v := .ref rr) (C := RX) (T := TX) (N := 11) hx hb hbg bg_X hown hK hP 0 rfl rfl 0 (by decide) (hbg _ bw_51) (fun _ h9 => h9) rfl dX_rooted_6 ?_
  refine lv_iload_n hx hb dX_rooted_9 rfl (lv_at hl 1 rfl) ?_
  refine va_iald hx hb hK hP 1 0 rfl rfl (sr_vin0 h1 h2) dX_rooted_10 ?_
  refine W.widen (k := 0) (n := 0) (Nat.le_of_ble_eq_true rfl) (Nat.le_of_ble_eq_true rfl) ?_
  exact W.iret (v := R x.toNatClampNeg) hx hb hr (fun t ht hW => ⟨⟨R x.toNatClampNeg, (), rfl, rfl, by rw [ht]; exact hP, va_K.moved hW.alike hK, hD⟩, hS.F ht⟩) hS.2.2 dX_rooted_11

set_option maxHeartbeats 4000000 in
set_option maxRecDepth 100000 in
theorem ct_X_rooted_b (l : Launch) (D : va_G) (h rr cc : Nat) (cI : ClassId) (N : Nat) (R C : Nat → Int32) (li us ob sl go gi fr la re : Int32) (sz : Nat) (x : Int32) (hN : N < 2 ^ 31) (hst : l.stackTraces = false) (hg : x < 0 ∨ ¬ x < nI 16) : sy_Mx l yX_rooted (Cond.code yX_rooted bX_rooted 2 (some .int) :: sr_big) { frames := 7, cells := 1, slots := 6, locals := 111 } D vwC [(cI, .int)] [.ref h, .int x] (wX h rr cc cI N R C li us ob sl go gi fr la re) sz sx_NSE 1 6 := by
  refine vx_ofW (cc := bX_rooted) (maxL := 2) (ret := (some .int)) (by decide) rfl ?_
  intro p e s m args below meth c s₁ B hml htab hv
  obtain ⟨rfl, ⟨hsz, hP, hK, hD0⟩, hG⟩ := hv
  have hx := B.exec
  have hb := B.bytes
  have hr := B.returns
  have hbg : ∀ w ∈ sr_big, w.before _ s = true := fun w h => atoms_spec (ws := Cond.code yX_rooted bX_rooted 2 (some .int) :: sr_big) B.pre w (List.mem_cons_of_mem _ h)
  have hown : s.vm.findClass RX = some m.cls := findClass_of_methodNamed B.named
  have hlocks := B.notSynchronized
  subst hsz
  have hD := hD0.self (sz := s.heap.size)
  generalize hAe : va_A (wX h rr cc cI N R C li us ob sl go gi fr la re) s.heap.size = A at *
  have hA : ∀ q : Nat, s.heap.size ≤ q → A q := fun q h => by rw [← hAe]; exact Or.inr h
  have hS : va_S A s.heap s.heap [] := va_S.rf
  have hl := lv_entry ([.ref h, .int x]) (n := 2) (Nat.le_of_ble_eq_true rfl)
  rw [lg_entry_eq]
  generalize (lg_sl ([.ref h, .int x]) ++ List.replicate (2 - (lg_sl ([.ref h, .int x])).length) Slot.unset).toArray = ls at hl ⊢
  have hl : lv_has ls 2 [(0, .ref h), (1, .int x)] := hl
  refine lv_aload_n hx hb dX_rooted_0 rfl (lv_at hl 0 rfl) ?_
  refine lv_iload_n hx hb dX_rooted_1 rfl (lv_at hl 1 rfl) ?_
  refine sy_cVx (wc := wX h rr cc cI N R C li us ob sl go gi fr la re) (wr := []) (ci := 0) (q0 := 0) (As := [.int x]) (rest := []) ⟨hx, hb, hml, hown, hbg⟩ (ct_X_needRoot_b l D h rr cc cI N R C li us ob sl go gi fr la re s.heap.size x hN hst hg) (cwV 1 hbg (bg_V bw_272 bw_273 bw_24 bw_34 bw_274) rfl rfl rfl (by decide +kernel) ⟨Nat.le_of_ble_eq_true rfl, Nat.le_of_ble_eq_true rfl⟩) hK [0] rfl hP hD hS hA hG [0, 1, 2] [] rfl rfl rfl rfl (by decide) rfl rfl rfl hl.1 rfl (Nat.le_of_ble_eq_true rfl) dX_rooted_2 ⟨Nat.le_of_ble_eq_true rfl, Nat.le_of_ble_eq_true rfl⟩ (fun q ce H locs hP hD hS hcell hcv hcl => ?_)
  exact sy_outx htab hlocks hP hK hD hS hcell hcv hcl (Nat.le_of_ble_eq_true rfl) (Nat.le_of_ble_eq_true rfl)

set_option maxHeartbeats 4000000 in
set_option maxRecDepth 100000 in
theorem ct_X_root_k (l : Launch) (D : va_G) (h rr cc : Nat) (cI : ClassId) (N : Nat) (R C : Nat → Int32) (li us ob sl go gi fr la re : Int32) (sz : Nat) (x a : Int32) (hN : N < 2 ^ 31) (h1 : ¬ x < 0) (h2 : x < nI 16) (h3 : a = 0 ∨ sr_isO N C a ob.toNatClampNeg 1 = true) : sy_Mi l yX_root (Cond.code yX_root bX_root 4 (some .int) :: sr_big) { frames := 8, cells := 0, slots := 0, locals := 132 } D vwC [(cI, .int)] [.ref h, .int x, .int a] (wX h rr cc cI N R C li us ob sl go gi fr la re) sz (R x.toNatClampNeg) (wX h rr cc cI N (upd R x.toNatClampNeg a) C li us ob sl go gi fr la re) 0 0 := by
  refine Met.ofW (cc := bX_root) (maxL := 4) (ret := (some .int)) (by decide) rfl ?_
  intro p e s m args below meth c s₁ B hml hv
  obtain ⟨rfl, hsz, hP, hK, hD0⟩ := hv
  have hx := B.exec
  have hb := B.bytes
  have hr := B.returns
  have hbg : ∀ w ∈ sr_big, w.before _ s = true := fun w h => atoms_spec (ws := Cond.code yX_root bX_root 4 (some .int) :: sr_big) B.pre w (List.mem_cons_of_mem _ h)
  have hown : s.vm.findClass RX = some m.cls := findClass_of_methodNamed B.named
  have hlocks := B.notSynchronized
  subst hsz
  have hD := hD0.self (sz := s.heap.size)
  generalize hAe : va_A (wX h rr cc cI N R C li us ob sl go gi fr la re) s.heap.size = A at *
  have hA : ∀ q : Nat, s.heap.size ≤ q → A q := fun q h => by rw [← hAe]; exact Or.inr h
  have hS : va_S A s.heap s.heap [] := va_S.rf
  have hl := lv_entry ([.ref h, .int x, .int a]) (n := 4) (Nat.le_of_ble_eq_true rfl)
  rw [lg_entry_eq]
  generalize (lg_sl ([.ref h, .int x, .int a]) ++ List.replicate (4 - (lg_sl ([.ref h, .int x, .int a])).length) Slot.unset).toArray = ls at hl ⊢
  have hl : lv_has ls 4 [(0, .ref h), (1, .int x), (2, .int a)] := hl
  refine lv_aload_n hx hb dX_root_0 rfl (lv_at hl 0 rfl) ?_
  refine lv_iload_n hx hb dX_root_1 rfl (lv_at hl 1 rfl) ?_
  refine sy_cVv (wc := wX h rr cc cI N R C li us ob sl go gi fr la re) (wr := []) (w1 := wX h rr cc cI N R C li us ob sl go gi fr la re) (ci := 0) (q0 := 0) (As := [.int x]) (rest := []) ⟨hx, hb, hml, hown, hbg⟩ (ct_X_needRoot_k l D h rr cc cI N R C li us ob sl go gi fr la re s.heap.size x hN h1 h2) (cwV 1 hbg (bg_V bw_272 bw_273 bw_24 bw_34 bw_274) rfl rfl rfl (by decide +kernel) ⟨Nat.le_of_ble_eq_true rfl, Nat.le_of_ble_eq_true rfl⟩) hK [0] rfl hP hD hS hA [0, 1, 2] [] rfl rfl rfl rfl (by decide) rfl rfl rfl hl.1 rfl (Nat.le_of_ble_eq_true rfl) dX_root_2 ⟨Nat.le_of_ble_eq_true rfl, Nat.le_of_ble_eq_true rfl⟩ (fun H locs hP hD hS => ?_)
  have hP : va_P D vwC (wX h rr cc cI N R C li us ob sl go gi fr la re) H := hP
  have hD : va_D A (wX h rr cc cI N R C li us ob sl go gi fr la re) := hD
  refine lv_aload_n hx hb dX_root_5 rfl (lv_at hl 0 rfl) ?_
  refine lv_iload_n hx hb dX_root_6 rfl (lv_at hl 2 rfl) ?_
  refine sy_cVv (wc := wX h rr cc cI N R C li us ob sl go gi fr la re) (wr := []) (w1 := wX h rr cc cI N R C li us ob sl go gi fr la re) (ci := 0) (q0 := 0) (As := [.int a]) (rest := []) ⟨hx, hb, hml, hown, hbg⟩ (ct_X_needObjectOrNothing_k l D h rr cc cI N R C li us ob sl go gi fr la re H.size a hN h3) (cwV 1 hbg (bg_V bw_232 bw_233 bw_20 bw_34 bw_234) rfl rfl rfl (by decide +kernel) ⟨Nat.le_of_ble_eq_true rfl, Nat.le_of_ble_eq_true rfl⟩) hK [0] rfl hP hD hS hA [0, 1, 2] [] rfl rfl rfl rfl (by decide) rfl rfl rfl hl.1 rfl (Nat.le_of_ble_eq_true rfl) dX_root_7 ⟨Nat.le_of_ble_eq_true rfl, Nat.le_of_ble_eq_true rfl⟩ (fun H locs hP hD hS => ?_)
  have hP : va_P D vwC (wX h rr cc cI N R C li us ob sl go gi fr la re) H := hP
  have hD : va_D A (wX h rr cc cI N R C li us ob sl go gi fr la re) := hD
  refine lv_aload_n hx hb dX_root_10 rfl (lv_at hl 0 rfl) ?_
  refine va_get (D := D) (ci := 0) (v := .ref rr) (C := RX) (T := TX) (N := 11) hx hb hbg bg_X hown hK hP 0 rfl rfl 0 (by decide) (hbg _ bw_51) (fun _ h9 => h9) rfl dX_root_11 ?_
  refine lv_iload_n hx hb dX_root_14 rfl (lv_at hl 1 rfl) ?_
  refine va_iald hx hb hK hP 1 0 rfl rfl (sr_vin0 h1 h2) dX_root_15 ?_
  refine lv_istore_n (lv' := [(3, .int (R x.toNatClampNeg)), (0, .ref h), (1, .int x), (2, .int a)]) hx hb dX_root_16 rfl hl (by decide) rfl (fun ls hl => ?_)
  refine lv_aload_n hx hb dX_root_17 rfl (lv_at hl 1 rfl) ?_
  refine va_get (D := D) (ci := 0) (v := .ref rr) (C := RX) (T := TX) (N := 11) hx hb hbg bg_X hown hK hP 0 rfl rfl 0 (by decide) (hbg _ bw_51) (fun _ h9 => h9) rfl dX_root_18 ?_
  refine lv_iload_n hx hb dX_root_21 rfl (lv_at hl 2 rfl) ?_
  refine lv_iload_n hx hb dX_root_22 rfl (lv_at hl 3 rfl) ?_
  refine va_iast hx hb hK hP hD hS 1 0 rfl rfl (sr_vin0 h1 h2) dX_root_23 (fun H locs hP hD hS => ?_)
  have hP : va_P D vwC (wX h rr cc cI N (upd R x.toNatClampNeg a) C li us ob sl go gi fr la re) H := hP
  have hD : va_D A (wX h rr cc cI N (upd R x.toNatClampNeg a) C li us ob sl go gi fr la re) := hD
  refine lv_iload_n hx hb dX_root_24 rfl (lv_at hl 0 rfl) ?_
  refine W.widen (k := 0) (n := 0) (Nat.le_of_ble_eq_true rfl) (Nat.le_of_ble_eq_true rfl) ?_
  exact W.iret (v := R x.toNatClampNeg) hx hb hr (fun t ht hW => ⟨⟨R x.toNatClampNeg, (), rfl, rfl, by rw [ht]; exact hP, va_K.moved hW.alike hK, hD⟩, hS.F ht⟩) hS.2.2 dX_root_25

set_option maxHeartbeats 4000000 in
set_option maxRecDepth 100000 in
theorem ct_X_root_b1 (l : Launch) (D : va_G) (h rr cc : Nat) (cI : ClassId) (N : Nat) (R C : Nat → Int32) (li us ob sl go gi fr la re : Int32) (sz : Nat) (x a : Int32) (hN : N < 2 ^ 31) (hst : l.stackTraces = false) (hg : x < 0 ∨ ¬ x < nI 16) : sy_Mx l yX_root (Cond.code yX_root bX_root 4 (some .int) :: sr_big) { frames := 8, cells := 1, slots := 6, locals := 132 } D vwC [(cI, .int)] [.ref h, .int x, .int a] (wX h rr cc cI N R C li us ob sl go gi fr la re) sz sx_NSE 1 6 := by
  refine vx_ofW (cc := bX_root) (maxL := 4) (ret := (some .int)) (by decide) rfl ?_
  intro p e s m args below meth c s₁ B hml htab hv
  obtain ⟨rfl, ⟨hsz, hP, hK, hD0⟩, hG⟩ := hv
  have hx := B.exec
  have hb := B.bytes
  have hr := B.returns
  have hbg : ∀ w ∈ sr_big, w.before _ s = true := fun w h => atoms_spec (ws := Cond.code yX_root bX_root 4 (some .int) :: sr_big) B.pre w (List.mem_cons_of_mem _ h)
  have hown : s.vm.findClass RX = some m.cls := findClass_of_methodNamed B.named
  have hlocks := B.notSynchronized
  subst hsz
  have hD := hD0.self (sz := s.heap.size)
  generalize hAe : va_A (wX h rr cc cI N R C li us ob sl go gi fr la re) s.heap.size = A at *
  have hA : ∀ q : Nat, s.heap.size ≤ q → A q := fun q h => by rw [← hAe]; exact Or.inr h
  have hS : va_S A s.heap s.heap [] := va_S.rf
  have hl := lv_entry ([.ref h, .int x, .int a]) (n := 4) (Nat.le_of_ble_eq_true rfl)
  rw [lg_entry_eq]
  generalize (lg_sl ([.ref h, .int x, .int a]) ++ List.replicate (4 - (lg_sl ([.ref h, .int x, .int a])).length) Slot.unset).toArray = ls at hl ⊢
  have hl : lv_has ls 4 [(0, .ref h), (1, .int x), (2, .int a)] := hl
  refine lv_aload_n hx hb dX_root_0 rfl (lv_at hl 0 rfl) ?_
  refine lv_iload_n hx hb dX_root_1 rfl (lv_at hl 1 rfl) ?_
  refine sy_cVx (wc := wX h rr cc cI N R C li us ob sl go gi fr la re) (wr := []) (ci := 0) (q0 := 0) (As := [.int x]) (rest := []) ⟨hx, hb, hml, hown, hbg⟩ (ct_X_needRoot_b l D h rr cc cI N R C li us ob sl go gi fr la re s.heap.size x hN hst hg) (cwV 1 hbg (bg_V bw_272 bw_273 bw_24 bw_34 bw_274) rfl rfl rfl (by decide +kernel) ⟨Nat.le_of_ble_eq_true rfl, Nat.le_of_ble_eq_true rfl⟩) hK [0] rfl hP hD hS hA hG [0, 1, 2] [] rfl rfl rfl rfl (by decide) rfl rfl rfl hl.1 rfl (Nat.le_of_ble_eq_true rfl) dX_root_2 ⟨Nat.le_of_ble_eq_true rfl, Nat.le_of_ble_eq_true rfl⟩ (fun q ce H locs hP hD hS hcell hcv hcl => ?_)
  exact sy_outx htab hlocks hP hK hD hS hcell hcv hcl (Nat.le_of_ble_eq_true rfl) (Nat.le_of_ble_eq_true rfl)

set_option maxHeartbeats 4000000 in
set_option maxRecDepth 100000 in
theorem ct_X_root_b2 (l : Launch) (D : va_G) (h rr cc : Nat) (cI : ClassId) (N : Nat) (R C : Nat → Int32) (li us ob sl go gi fr la re : Int32) (sz : Nat) (x a : Int32) (hN : N < 2 ^ 31) (hst : l.stackTraces = false) (h1 : ¬ x < 0) (h2 : x < nI 16) (h0 : ¬ a = 0) (h3 : sr_isO N C a ob.toNatClampNeg 1 = false) : sy_Mx l yX_root (Cond.code yX_root bX_root 4 (some .int) :: sr_big) { frames := 8, cells := 1, slots := 6, locals := 132 } D vwC [(cI, .int)] [.ref h, .int x, .int a] (wX h rr cc cI N R C li us ob sl go gi fr la re) sz sx_NSE 1 6 := by
  refine vx_ofW (cc := bX_root) (maxL := 4) (ret := (some .int)) (by decide) rfl ?_
  intro p e s m args below meth c s₁ B hml htab hv
  obtain ⟨rfl, ⟨hsz, hP, hK, hD0⟩, hG⟩ := hv
  have hx := B.exec
  have hb := B.bytes
  have hr := B.returns
  have hbg : ∀ w ∈ sr_big, w.before _ s = true := fun w h => atoms_spec (ws := Cond.code yX_root bX_root 4 (some .int) :: sr_big) B.pre w (List.mem_cons_of_mem _ h)
  have hown : s.vm.findClass RX = some m.cls := findClass_of_methodNamed B.named
  have hlocks := B.notSynchronized
  subst hsz
  have hD := hD0.self (sz := s.heap.size)
  generalize hAe : va_A (wX h rr cc cI N R C li us ob sl go gi fr la re) s.heap.size = A at *
  have hA : ∀ q : Nat, s.heap.size ≤ q → A q := fun q h => by rw [← hAe]; exact Or.inr h
  have hS : va_S A s.heap s.heap [] := va_S.rf
  have hl := lv_entry ([.ref h, .int x, .int a]) (n := 4) (Nat.le_of_ble_eq_true rfl)
  rw [lg_entry_eq]
  generalize (lg_sl ([.ref h, .int x, .int a]) ++ List.replicate (4 - (lg_sl ([.ref h, .int x, .int a])).length) Slot.unset).toArray = ls at hl ⊢
  have hl : lv_has ls 4 [(0, .ref h), (1, .int x), (2, .int a)] := hl
  refine lv_aload_n hx hb dX_root_0 rfl (lv_at hl 0 rfl) ?_
  refine lv_iload_n hx hb dX_root_1 rfl (lv_at hl 1 rfl) ?_
  refine sy_cVv (wc := wX h rr cc cI N R C li us ob sl go gi fr la re) (wr := []) (w1 := wX h rr cc cI N R C li us ob sl go gi fr la re) (ci := 0) (q0 := 0) (As := [.int x]) (rest := []) ⟨hx, hb, hml, hown, hbg⟩ (ct_X_needRoot_k l D h rr cc cI N R C li us ob sl go gi fr la re s.heap.size x hN h1 h2) (cwV 1 hbg (bg_V bw_272 bw_273 bw_24 bw_34 bw_274) rfl rfl rfl (by decide +kernel) ⟨Nat.le_of_ble_eq_true rfl, Nat.le_of_ble_eq_true rfl⟩) hK [0] rfl hP hD hS hA [0, 1, 2] [] rfl rfl rfl rfl (by decide) rfl rfl rfl hl.1 rfl (Nat.le_of_ble_eq_true rfl) dX_root_2 ⟨Nat.le_of_ble_eq_true rfl, Nat.le_of_ble_eq_true rfl⟩ (fun H locs hP hD hS => ?_)
  have hP : va_P D vwC (wX h rr cc cI N R C li us ob sl go gi fr la re) H := hP
  have hD : va_D A (wX h rr cc cI N R C li us ob sl go gi fr la re) := hD
  refine lv_aload_n hx hb dX_root_5 rfl (lv_at hl 0 rfl) ?_
  refine lv_iload_n hx hb dX_root_6 rfl (lv_at hl 2 rfl) ?_
  refine sy_cVx (wc := wX h rr cc cI N R C li us ob sl go gi fr la re) (wr := []) (ci := 0) (q0 := 0) (As := [.int a]) (rest := []) ⟨hx, hb, hml, hown, hbg⟩ (ct_X_needObjectOrNothing_b l D h rr cc cI N R C li us ob sl go gi fr la re H.size a hN hst h0 h3) (cwV 1 hbg (bg_V bw_232 bw_233 bw_20 bw_34 bw_234) rfl rfl rfl (by decide +kernel) ⟨Nat.le_of_ble_eq_true rfl, Nat.le_of_ble_eq_true rfl⟩) hK [0] rfl hP hD hS hA hG [0, 1, 2] [] rfl rfl rfl rfl (by decide) rfl rfl rfl hl.1 rfl (Nat.le_of_ble_eq_true rfl) dX_root_7 ⟨Nat.le_of_ble_eq_true rfl, Nat.le_of_ble_eq_true rfl⟩ (fun q ce H locs hP hD hS hcell hcv hcl => ?_)
  exact sy_outx htab hlocks hP hK hD hS hcell hcv hcl (Nat.le_of_ble_eq_true rfl) (Nat.le_of_ble_eq_true rfl)

set_option maxHeartbeats 4000000 in
set_option maxRecDepth 100000 in
theorem ct_X_number_k1 (l : Launch) (D : va_G) (h rr cc : Nat) (cI : ClassId) (N : Nat) (R C : Nat → Int32) (li us ob sl go gi fr la re : Int32) (sz : Nat) (a : Int32) (hN : N < 2 ^ 31) (hg : sr_isO N C a ob.toNatClampNeg 1 = true) (h1 : sr_rd N C (a + 1) = 0) : sy_Mi l yX_number (Cond.code yX_number bX_number 2 (some .int) :: sr_big) { frames := 7, cells := 0, slots := 0, locals := 111 } D vwC [(cI, .int)] [.ref h, .int a] (wX h rr cc cI N R C li us ob sl go gi fr la re) sz (sr_rd N (sr_wr N C (a + 1) (gi + 1)) (a + 1) - 1) (wX h rr cc cI N R (sr_wr N C (a + 1) (gi + 1)) li us ob sl go (gi + 1) fr la re) 0 0 := by
  refine Met.ofW (cc := bX_number) (maxL := 2) (ret := (some .int)) (by decide) rfl ?_
  intro p e s m args below meth c s₁ B hml hv
  obtain ⟨rfl, hsz, hP, hK, hD0⟩ := hv
  have hx := B.exec
  have hb := B.bytes
  have hr := B.returns
  have hbg : ∀ w ∈ sr_big, w.before _ s = true := fun w h => atoms_spec (ws := Cond.code yX_number bX_number 2 (some .int) :: sr_big) B.pre w (List.mem_cons_of_mem _ h)
  have hown : s.vm.findClass RX = some m.cls := findClass_of_methodNamed B.named
  have hlocks := B.notSynchronized
  subst hsz
  have hD := hD0.self (sz := s.heap.size)
  generalize hAe : va_A (wX h rr cc cI N R C li us ob sl go gi fr la re) s.heap.size = A at *
  have hA : ∀ q : Nat, s.heap.size ≤ q → A q := fun q h => by rw [← hAe]; exact Or.inr h
  have hS : va_S A s.heap s.heap [] := va_S.rf
  have hl := lv_entry ([.ref h, .int a]) (n := 2) (Nat.le_of_ble_eq_true rfl)
  rw [lg_entry_eq]
  generalize (lg_sl ([.ref h, .int a]) ++ List.replicate (2 - (lg_sl ([.ref h, .int a])).length) Slot.unset).toArray = ls at hl ⊢
  have hl : lv_has ls 2 [(0, .ref h), (1, .int a)] := hl
  refine lv_aload_n hx hb dX_number_0 rfl (lv_at hl 0 rfl) ?_
  refine lv_iload_n hx hb dX_number_1 rfl (lv_at hl 1 rfl) ?_
  refine sy_cVv (wc := wX h rr cc cI N R C li us ob sl go gi fr la re) (wr := []) (w1 := wX h rr cc cI N R C li us ob sl go gi fr la re) (ci := 0) (q0 := 0) (As := [.int a]) (rest := []) ⟨hx, hb, hml, hown, hbg⟩ (ct_X_needObject_k l D h rr cc cI N R C li us ob sl go gi fr la re s.heap.size a hN hg) (cwV 1 hbg (bg_V bw_213 bw_214 bw_18 bw_34 bw_215) rfl rfl rfl (by decide +kernel) ⟨Nat.le_of_ble_eq_true rfl, Nat.le_of_ble_eq_true rfl⟩) hK [0] rfl hP hD hS hA [0, 1, 2] [] rfl rfl rfl rfl (by decide) rfl rfl rfl hl.1 rfl (Nat.le_of_ble_eq_true rfl) dX_number_2 ⟨Nat.le_of_ble_eq_true rfl, Nat.le_of_ble_eq_true rfl⟩ (fun H locs hP hD hS => ?_)
  have hP : va_P D vwC (wX h rr cc cI N R C li us ob sl go gi fr la re) H := hP
  have hD : va_D A (wX h rr cc cI N R C li us ob sl go gi fr la re) := hD
  refine lv_aload_n hx hb dX_number_5 rfl (lv_at hl 0 rfl) ?_
  refine lv_iload_n hx hb dX_number_6 rfl (lv_at hl 1 rfl) ?_
  refine lv_iconst (v := 1) hx hb dX_number_7 (by decide) ?_
  refine lv_iadd hx hb dX_number_8 ?_
  refine sy_cVi (wc := wX h rr cc cI N R C li us ob sl go gi fr la re) (wr := []) (w1 := wX h rr cc cI N R C li us ob sl go gi fr la re) (ci := 0) (q0 := 0) (As := [.int (a + 1)]) (rest := []) ⟨hx, hb, hml, hown, hbg⟩ (ct_X_read l D h rr cc cI N R C li us ob sl go gi fr la re H.size (a + 1) hN) (cwV 1 hbg (bg_V bw_90 bw_91 bw_4 bw_34 bw_92) rfl rfl rfl (by decide +kernel) ⟨Nat.le_of_ble_eq_true rfl, Nat.le_of_ble_eq_true rfl⟩) hK [0] rfl hP hD hS hA [0, 1, 2] [] rfl rfl rfl rfl (by decide) rfl rfl rfl hl.1 rfl (Nat.le_of_ble_eq_true rfl) dX_number_9 ⟨Nat.le_of_ble_eq_true rfl, Nat.le_of_ble_eq_true rfl⟩ (fun H locs hP hD hS => ?_)
  have hP : va_P D vwC (wX h rr cc cI N R C li us ob sl go gi fr la re) H := hP
  have hD : va_D A (wX h rr cc cI N R C li us ob sl go gi fr la re) := hD
  refine lv_if_ne (tgt := 36) hx hb dX_number_12 (by decide) (fun z => absurd h1 z) (fun _ => ?_)
  refine lv_aload_n hx hb dX_number_15 rfl (lv_at hl 0 rfl) ?_
  refine lv_dup hx hb dX_number_16 rfl ?_
  refine va_get (D := D) (ci := 0) (v := .int gi) (C := RX) (T := TX) (N := 11) hx hb hbg bg_X hown hK hP 0 rfl rfl 7 (by decide) (hbg _ bw_58) (fun _ h9 => h9) rfl dX_number_17 ?_
  refine lv_iconst (v := 1) hx hb dX_number_20 (by decide) ?_
  refine lv_iadd hx hb dX_number_21 ?_
  refine va_put (D := D) (ci := 0) (v := .int (gi + 1)) (ty := .int) (C := RX) (T := TX) (N := 11) hx hb hbg bg_X tX tX_ok nX hown hK hP hD hS 0 rfl rfl 7 (by decide) (hbg _ bw_58) (fun _ h9 => h9) rfl (by decide +kernel) rfl rfl (Nat.le_of_ble_eq_true rfl) dX_number_22 (fun H locs hP hD hS => ?_)
  have hP : va_P D vwC (wX h rr cc cI N R C li us ob sl go (gi + 1) fr la re) H := hP
  have hD : va_D A (wX h rr cc cI N R C li us ob sl go (gi + 1) fr la re) := hD
  refine lv_aload_n hx hb dX_number_25 rfl (lv_at hl 0 rfl) ?_
  refine lv_iload_n hx hb dX_number_26 rfl (lv_at hl 1 rfl) ?_
  refine lv_iconst (v := 1) hx hb dX_number_27 (by decide) ?_
  refine lv_iadd hx hb dX_number_28 ?_
  refine lv_aload_n hx hb dX_number_29 rfl (lv_at hl 0 rfl) ?_
  refine va_get (D := D) (ci := 0) (v := .int (gi + 1)) (C := RX) (T := TX) (N := 11) hx hb hbg bg_X hown hK hP 0 rfl rfl 7 (by decide) (hbg _ bw_58) (fun _ h9 => h9) rfl dX_number_30 ?_
  refine sy_cVv (wc := wX h rr cc cI N R C li us ob sl go (gi + 1) fr la re) (wr := []) (w1 := wX h rr cc cI N R (sr_wr N C (a + 1) (gi + 1)) li us ob sl go (gi + 1) fr la re) (ci := 0) (q0 := 0) (As := [.int (a + 1), .int (gi + 1)]) (rest := []) ⟨hx, hb, hml, hown, hbg⟩ (ct_X_write l D h rr cc cI N R C li us ob sl go (gi + 1) fr la re H.size (a + 1) (gi + 1) hN) (cwV 2 hbg (bg_V bw_84 bw_85 bw_2 bw_34 bw_86) rfl rfl rfl (by decide +kernel) ⟨Nat.le_of_ble_eq_true rfl, Nat.le_of_ble_eq_true rfl⟩) hK [0] rfl hP hD hS hA [0, 1, 2] [] rfl rfl rfl rfl (by decide) rfl rfl rfl hl.1 rfl (Nat.le_of_ble_eq_true rfl) dX_number_33 ⟨Nat.le_of_ble_eq_true rfl, Nat.le_of_ble_eq_true rfl⟩ (fun H locs hP hD hS => ?_)
  have hP : va_P D vwC (wX h rr cc cI N R (sr_wr N C (a + 1) (gi + 1)) li us ob sl go (gi + 1) fr la re) H := hP
  have hD : va_D A (wX h rr cc cI N R (sr_wr N C (a + 1) (gi + 1)) li us ob sl go (gi + 1) fr la re) := hD
  refine lv_aload_n hx hb dX_number_36 rfl (lv_at hl 0 rfl) ?_
  refine lv_iload_n hx hb dX_number_37 rfl (lv_at hl 1 rfl) ?_
  refine lv_iconst (v := 1) hx hb dX_number_38 (by decide) ?_
  refine lv_iadd hx hb dX_number_39 ?_
  refine sy_cVi (wc := wX h rr cc cI N R (sr_wr N C (a + 1) (gi + 1)) li us ob sl go (gi + 1) fr la re) (wr := []) (w1 := wX h rr cc cI N R (sr_wr N C (a + 1) (gi + 1)) li us ob sl go (gi + 1) fr la re) (ci := 0) (q0 := 0) (As := [.int (a + 1)]) (rest := []) ⟨hx, hb, hml, hown, hbg⟩ (ct_X_read l D h rr cc cI N R (sr_wr N C (a + 1) (gi + 1)) li us ob sl go (gi + 1) fr la re H.size (a + 1) hN) (cwV 1 hbg (bg_V bw_90 bw_91 bw_4 bw_34 bw_92) rfl rfl rfl (by decide +kernel) ⟨Nat.le_of_ble_eq_true rfl, Nat.le_of_ble_eq_true rfl⟩) hK [0] rfl hP hD hS hA [0, 1, 2] [] rfl rfl rfl rfl (by decide) rfl rfl rfl hl.1 rfl (Nat.le_of_ble_eq_true rfl) dX_number_40 ⟨Nat.le_of_ble_eq_true rfl, Nat.le_of_ble_eq_true rfl⟩ (fun H locs hP hD hS => ?_)
  have hP : va_P D vwC (wX h rr cc cI N R (sr_wr N C (a + 1) (gi + 1)) li us ob sl go (gi + 1) fr la re) H := hP
  have hD : va_D A (wX h rr cc cI N R (sr_wr N C (a + 1) (gi + 1)) li us ob sl go (gi + 1) fr la re) := hD
  refine lv_iconst (v := 1) hx hb dX_number_43 (by decide) ?_
  refine lv_isub hx hb dX_number_44 ?_
  refine W.widen (k := 0) (n := 0) (Nat.le_of_ble_eq_true rfl) (Nat.le_of_ble_eq_true rfl) ?_
  exact W.iret (v := (sr_rd N (sr_wr N C (a + 1) (gi + 1)) (a + 1)) - 1) hx hb hr (fun t ht hW => ⟨⟨(sr_rd N (sr_wr N C (a + 1) (gi + 1)) (a + 1)) - 1, (), rfl, rfl, by rw [ht]; exact hP, va_K.moved hW.alike hK, hD⟩, hS.F ht⟩) hS.2.2 dX_number_45

set_option maxHeartbeats 4000000 in
set_option maxRecDepth 100000 in
theorem ct_X_number_k2 (l : Launch) (D : va_G) (h rr cc : Nat) (cI : ClassId) (N : Nat) (R C : Nat → Int32) (li us ob sl go gi fr la re : Int32) (sz : Nat) (a : Int32) (hN : N < 2 ^ 31) (hg : sr_isO N C a ob.toNatClampNeg 1 = true) (h1 : ¬ sr_rd N C (a + 1) = 0) : sy_Mi l yX_number (Cond.code yX_number bX_number 2 (some .int) :: sr_big) { frames := 7, cells := 0, slots := 0, locals := 111 } D vwC [(cI, .int)] [.ref h, .int a] (wX h rr cc cI N R C li us ob sl go gi fr la re) sz (sr_rd N C (a + 1) - 1) (wX h rr cc cI N R C li us ob sl go gi fr la re) 0 0 := by
  refine Met.ofW (cc := bX_number) (maxL := 2) (ret := (some .int)) (by decide) rfl ?_
  intro p e s m args below meth c s₁ B hml hv
  obtain ⟨rfl, hsz, hP, hK, hD0⟩ := hv
  have hx := B.exec
  have hb := B.bytes
  have hr := B.returns
  have hbg : ∀ w ∈ sr_big, w.before _ s = true := fun w h => atoms_spec (ws := Cond.code yX_number bX_number 2 (some .int) :: sr_big) B.pre w (List.mem_cons_of_mem _ h)
  have hown : s.vm.findClass RX = some m.cls := findClass_of_methodNamed B.named
  have hlocks := B.notSynchronized
  subst hsz
  have hD := hD0.self (sz := s.heap.size)
  generalize hAe : va_A (wX h rr cc cI N R C li us ob sl go gi fr la re) s.heap.size = A at *
  have hA : ∀ q : Nat, s.heap.size ≤ q → A q := fun q h => by rw [← hAe]; exact Or.inr h
  have hS : va_S A s.heap s.heap [] := va_S.rf
  have hl := lv_entry ([.ref h, .int a]) (n := 2) (Nat.le_of_ble_eq_true rfl)
  rw [lg_entry_eq]
  generalize (lg_sl ([.ref h, .int a]) ++ List.replicate (2 - (lg_sl ([.ref h, .int a])).length) Slot.unset).toArray = ls at hl ⊢
  have hl : lv_has ls 2 [(0, .ref h), (1, .int a)] := hl
  refine lv_aload_n hx hb dX_number_0 rfl (lv_at hl 0 rfl) ?_
  refine lv_iload_n hx hb dX_number_1 rfl (lv_at hl 1 rfl) ?_
  refine sy_cVv (wc := wX h rr cc cI N R C li us ob sl go gi fr la re) (wr := []) (w1 := wX h rr cc cI N R C li us ob sl go gi fr la re) (ci := 0) (q0 := 0) (As := [.int a]) (rest := []) ⟨hx, hb, hml, hown, hbg⟩ (ct_X_needObject_k l D h rr cc cI N R C li us ob sl go gi fr la re s.heap.size a hN hg) (cwV 1 hbg (bg_V bw_213 bw_214 bw_18 bw_34 bw_215) rfl rfl rfl (by decide +kernel) ⟨Nat.le_of_ble_eq_true rfl, Nat.le_of_ble_eq_true rfl⟩) hK [0] rfl hP hD hS hA [0, 1, 2] [] rfl rfl rfl rfl (by decide) rfl rfl rfl hl.1 rfl (Nat.le_of_ble_eq_true rfl) dX_number_2 ⟨Nat.le_of_ble_eq_true rfl, Nat.le_of_ble_eq_true rfl⟩ (fun H locs hP hD hS => ?_)
  have hP : va_P D vwC (wX h rr cc cI N R C li us ob sl go gi fr la re) H := hP
  have hD : va_D A (wX h rr cc cI N R C li us ob sl go gi fr la re) := hD
  refine lv_aload_n hx hb dX_number_5 rfl (lv_at hl 0 rfl) ?_
  refine lv_iload_n hx hb dX_number_6 rfl (lv_at hl 1 rfl) ?_
  refine lv_iconst (v := 1) hx hb dX_number_7 (by decide) ?_
  refine lv_iadd hx hb dX_number_8 ?_
  refine sy_cVi (wc := wX h rr cc cI N R C li us ob sl go gi fr la re) (wr := []) (w1 := wX h rr cc cI N R C li us ob sl go gi fr la re) (ci := 0) (q0 := 0) (As := [.int (a + 1)]) (rest := []) ⟨hx, hb, hml, hown, hbg⟩ (ct_X_read l D h rr cc cI N R C li us ob sl go gi fr la re H.size (a + 1) hN) (cwV 1 hbg (bg_V bw_90 bw_91 bw_4 bw_34 bw_92) rfl rfl rfl (by decide +kernel) ⟨Nat.le_of_ble_eq_true rfl, Nat.le_of_ble_eq_true rfl⟩) hK [0] rfl hP hD hS hA [0, 1, 2] [] rfl rfl rfl rfl (by decide) rfl rfl rfl hl.1 rfl (Nat.le_of_ble_eq_true rfl) dX_number_9 ⟨Nat.le_of_ble_eq_true rfl, Nat.le_of_ble_eq_true rfl⟩ (fun H locs hP hD hS => ?_)
  have hP : va_P D vwC (wX h rr cc cI N R C li us ob sl go gi fr la re) H := hP
  have hD : va_D A (wX h rr cc cI N R C li us ob sl go gi fr la re) := hD
  refine lv_if_ne (tgt := 36) hx hb dX_number_12 (by decide) (fun _ => ?_) (fun z => absurd z h1)
  refine lv_aload_n hx hb dX_number_36 rfl (lv_at hl 0 rfl) ?_
  refine lv_iload_n hx hb dX_number_37 rfl (lv_at hl 1 rfl) ?_
  refine lv_iconst (v := 1) hx hb dX_number_38 (by decide) ?_
  refine lv_iadd hx hb dX_number_39 ?_
  refine sy_cVi (wc := wX h rr cc cI N R C li us ob sl go gi fr la re) (wr := []) (w1 := wX h rr cc cI N R C li us ob sl go gi fr la re) (ci := 0) (q0 := 0) (As := [.int (a + 1)]) (rest := []) ⟨hx, hb, hml, hown, hbg⟩ (ct_X_read l D h rr cc cI N R C li us ob sl go gi fr la re H.size (a + 1) hN) (cwV 1 hbg (bg_V bw_90 bw_91 bw_4 bw_34 bw_92) rfl rfl rfl (by decide +kernel) ⟨Nat.le_of_ble_eq_true rfl, Nat.le_of_ble_eq_true rfl⟩) hK [0] rfl hP hD hS hA [0, 1, 2] [] rfl rfl rfl rfl (by decide) rfl rfl rfl hl.1 rfl (Nat.le_of_ble_eq_true rfl) dX_number_40 ⟨Nat.le_of_ble_eq_true rfl, Nat.le_of_ble_eq_true rfl⟩ (fun H locs hP hD hS => ?_)
  have hP : va_P D vwC (wX h rr cc cI N R C li us ob sl go gi fr la re) H := hP
  have hD : va_D A (wX h rr cc cI N R C li us ob sl go gi fr la re) := hD
  refine lv_iconst (v := 1) hx hb dX_number_43 (by decide) ?_
  refine lv_isub hx hb dX_number_44 ?_
  refine W.widen (k := 0) (n := 0) (Nat.le_of_ble_eq_true rfl) (Nat.le_of_ble_eq_true rfl) ?_
  exact W.iret (v := (sr_rd N C (a + 1)) - 1) hx hb hr (fun t ht hW => ⟨⟨(sr_rd N C (a + 1)) - 1, (), rfl, rfl, by rw [ht]; exact hP, va_K.moved hW.alike hK, hD⟩, hS.F ht⟩) hS.2.2 dX_number_45

set_option maxHeartbeats 4000000 in
set_option maxRecDepth 100000 in
theorem ct_X_number_b (l : Launch) (D : va_G) (h rr cc : Nat) (cI : ClassId) (N : Nat) (R C : Nat → Int32) (li us ob sl go gi fr la re : Int32) (sz : Nat) (a : Int32) (hN : N < 2 ^ 31) (hst : l.stackTraces = false) (hg : sr_isO N C a ob.toNatClampNeg 1 = false) : sy_Mx l yX_number (Cond.code yX_number bX_number 2 (some .int) :: sr_big) { frames := 7, cells := 1, slots := 6, locals := 111 } D vwC [(cI, .int)] [.ref h, .int a] (wX h rr cc cI N R C li us ob sl go gi fr la re) sz sx_NSE 1 6 := by
  refine vx_ofW (cc := bX_number) (maxL := 2) (ret := (some .int)) (by decide) rfl ?_
  intro p e s m args below meth c s₁ B hml htab hv
  obtain ⟨rfl, ⟨hsz, hP, hK, hD0⟩, hG⟩ := hv
  have hx := B.exec
  have hb := B.bytes
  have hr := B.returns
  have hbg : ∀ w ∈ sr_big, w.before _ s = true := fun w h => atoms_spec (ws := Cond.code yX_number bX_number 2 (some .int) :: sr_big) B.pre w (List.mem_cons_of_mem _ h)
  have hown : s.vm.findClass RX = some m.cls := findClass_of_methodNamed B.named
  have hlocks := B.notSynchronized
  subst hsz
  have hD := hD0.self (sz := s.heap.size)
  generalize hAe : va_A (wX h rr cc cI N R C li us ob sl go gi fr la re) s.heap.size = A at *
  have hA : ∀ q : Nat, s.heap.size ≤ q → A q := fun q h => by rw [← hAe]; exact Or.inr h
  have hS : va_S A s.heap s.heap [] := va_S.rf
  have hl := lv_entry ([.ref h, .int a]) (n := 2) (Nat.le_of_ble_eq_true rfl)
  rw [lg_entry_eq]
  generalize (lg_sl ([.ref h, .int a]) ++ List.replicate (2 - (lg_sl ([.ref h, .int a])).length) Slot.unset).toArray = ls at hl ⊢
  have hl : lv_has ls 2 [(0, .ref h), (1, .int a)] := hl
  refine lv_aload_n hx hb dX_number_0 rfl (lv_at hl 0 rfl) ?_
  refine lv_iload_n hx hb dX_number_1 rfl (lv_at hl 1 rfl) ?_
  refine sy_cVx (wc := wX h rr cc cI N R C li us ob sl go gi fr la re) (wr := []) (ci := 0) (q0 := 0) (As := [.int a]) (rest := []) ⟨hx, hb, hml, hown, hbg⟩ (ct_X_needObject_b l D h rr cc cI N R C li us ob sl go gi fr la re s.heap.size a hN hst hg) (cwV 1 hbg (bg_V bw_213 bw_214 bw_18 bw_34 bw_215) rfl rfl rfl (by decide +kernel) ⟨Nat.le_of_ble_eq_true rfl, Nat.le_of_ble_eq_true rfl⟩) hK [0] rfl hP hD hS hA hG [0, 1, 2] [] rfl rfl rfl rfl (by decide) rfl rfl rfl hl.1 rfl (Nat.le_of_ble_eq_true rfl) dX_number_2 ⟨Nat.le_of_ble_eq_true rfl, Nat.le_of_ble_eq_true rfl⟩ (fun q ce H locs hP hD hS hcell hcv hcl => ?_)
  exact sy_outx htab hlocks hP hK hD hS hcell hcv hcl (Nat.le_of_ble_eq_true rfl) (Nat.le_of_ble_eq_true rfl)

set_option maxHeartbeats 4000000 in
set_option maxRecDepth 100000 in
theorem ct_X_next_k (l : Launch) (D : va_G) (h rr cc : Nat) (cI : ClassId) (N : Nat) (R C : Nat → Int32) (li us ob sl go gi fr la re : Int32) (sz : Nat) (a : Int32) (hN : N < 2 ^ 31) (h3 : a = 0 ∨ sr_isO N C a ob.toNatClampNeg 1 = true) : sy_Mi l yX_next (Cond.code yX_next bX_next 3 (some .int) :: sr_big) { frames := 8, cells := 0, slots := 0, locals := 132 } D vwC [(cI, .int)] [.ref h, .int a] (wX h rr cc cI N R C li us ob sl go gi fr la re) sz (if us < (if a = 0 then 1 else a + sr_si N C a) then 0 else (if a = 0 then 1 else a + sr_si N C a)) (wX h rr cc cI N R C li us ob sl go gi fr la re) 0 0 := by
  refine Met.ofW (cc := bX_next) (maxL := 3) (ret := (some .int)) (by decide) rfl ?_
  intro p e s m args below meth c s₁ B hml hv
  obtain ⟨rfl, hsz, hP, hK, hD0⟩ := hv
  have hx := B.exec
  have hb := B.bytes
  have hr := B.returns
  have hbg : ∀ w ∈ sr_big, w.before _ s = true := fun w h => atoms_spec (ws := Cond.code yX_next bX_next 3 (some .int) :: sr_big) B.pre w (List.mem_cons_of_mem _ h)
  have hown : s.vm.findClass RX = some m.cls := findClass_of_methodNamed B.named
  have hlocks := B.notSynchronized
  subst hsz
  have hD := hD0.self (sz := s.heap.size)
  generalize hAe : va_A (wX h rr cc cI N R C li us ob sl go gi fr la re) s.heap.size = A at *
  have hA : ∀ q : Nat, s.heap.size ≤ q → A q := fun q h => by rw [← hAe]; exact Or.inr h
  have hS : va_S A s.heap s.heap [] := va_S.rf
  have hl := lv_entry ([.ref h, .int a]) (n := 3) (Nat.le_of_ble_eq_true rfl)
  rw [lg_entry_eq]
  generalize (lg_sl ([.ref h, .int a]) ++ List.replicate (3 - (lg_sl ([.ref h, .int a])).length) Slot.unset).toArray = ls at hl ⊢
  have hl : lv_has ls 3 [(0, .ref h), (1, .int a)] := hl
  refine lv_aload_n hx hb dX_next_0 rfl (lv_at hl 0 rfl) ?_
  refine lv_iload_n hx hb dX_next_1 rfl (lv_at hl 1 rfl) ?_
  refine sy_cVv (wc := wX h rr cc cI N R C li us ob sl go gi fr la re) (wr := []) (w1 := wX h rr cc cI N R C li us ob sl go gi fr la re) (ci := 0) (q0 := 0) (As := [.int a]) (rest := []) ⟨hx, hb, hml, hown, hbg⟩ (ct_X_needObjectOrNothing_k l D h rr cc cI N R C li us ob sl go gi fr la re s.heap.size a hN h3) (cwV 1 hbg (bg_V bw_232 bw_233 bw_20 bw_34 bw_234) rfl rfl rfl (by decide +kernel) ⟨Nat.le_of_ble_eq_true rfl, Nat.le_of_ble_eq_true rfl⟩) hK [0] rfl hP hD hS hA [0, 1, 2] [] rfl rfl rfl rfl (by decide) rfl rfl rfl hl.1 rfl (Nat.le_of_ble_eq_true rfl) dX_next_2 ⟨Nat.le_of_ble_eq_true rfl, Nat.le_of_ble_eq_true rfl⟩ (fun H locs hP hD hS => ?_)
  have hP : va_P D vwC (wX h rr cc cI N R C li us ob sl go gi fr la re) H := hP
  have hD : va_D A (wX h rr cc cI N R C li us ob sl go gi fr la re) := hD
  refine lv_iload_n hx hb dX_next_5 rfl (lv_at hl 1 rfl) ?_
  refine lv_if_ne (tgt := 13) hx hb dX_next_6 (by decide) (fun c_6 => ?_) (fun c_6 => ?_)
  · refine lv_iload_n hx hb dX_next_13 rfl (lv_at hl 1 rfl) ?_
    refine lv_aload_n hx hb dX_next_14 rfl (lv_at hl 0 rfl) ?_
    refine lv_iload_n hx hb dX_next_15 rfl (lv_at hl 1 rfl) ?_
    refine sy_cVi (wc := wX h rr cc cI N R C li us ob sl go gi fr la re) (wr := []) (w1 := wX h rr cc cI N R C li us ob sl go gi fr la re) (ci := 0) (q0 := 0) (As := [.int a]) (rest := [.int a]) ⟨hx, hb, hml, hown, hbg⟩ (ct_X_sizeOf l D h rr cc cI N R C li us ob sl go gi fr la re H.size a hN) (cwV 1 hbg (bg_V bw_87 bw_88 bw_3 bw_34 bw_89) rfl rfl rfl (by decide +kernel) ⟨Nat.le_of_ble_eq_true rfl, Nat.le_of_ble_eq_true rfl⟩) hK [0] rfl hP hD hS hA [0, 1, 2] [] rfl rfl rfl rfl (by decide) rfl rfl rfl hl.1 rfl (Nat.le_of_ble_eq_true rfl) dX_next_16 ⟨Nat.le_of_ble_eq_true rfl, Nat.le_of_ble_eq_true rfl⟩ (fun H locs hP hD hS => ?_)
    have hP : va_P D vwC (wX h rr cc cI N R C li us ob sl go gi fr la re) H := hP
    have hD : va_D A (wX h rr cc cI N R C li us ob sl go gi fr la re) := hD
    refine lv_iadd hx hb dX_next_19 ?_
    refine lv_istore_n (lv' := [(2, .int (a + (sr_si N C a))), (0, .ref h), (1, .int a)]) hx hb dX_next_20 rfl hl (by decide) rfl (fun ls hl => ?_)
    refine lv_iload_n hx hb dX_next_21 rfl (lv_at hl 0 rfl) ?_
    refine lv_aload_n hx hb dX_next_22 rfl (lv_at hl 1 rfl) ?_
    refine va_get (D := D) (ci := 0) (v := .int us) (C := RX) (T := TX) (N := 11) hx hb hbg bg_X hown hK hP 0 rfl rfl 3 (by decide) (hbg _ bw_54) (fun _ h9 => h9) rfl dX_next_23 ?_
    refine lv_icmp_gt (tgt := 33) hx hb dX_next_26 (by decide) (fun c_26 => ?_) (fun c_26 => ?_)
    · refine lv_iconst (v := 0) hx hb dX_next_33 (by decide) ?_
      refine W.widen (k := 0) (n := 0) (Nat.le_of_ble_eq_true rfl) (Nat.le_of_ble_eq_true rfl) ?_
      exact W.iret (v := 0) hx hb hr (fun t ht hW => ⟨⟨0, (), rfl, (by simp only [c_6, c_26, ↓reduceIte]), by rw [ht]; exact hP, va_K.moved hW.alike hK, hD⟩, hS.F ht⟩) hS.2.2 dX_next_34
    · refine lv_iload_n hx hb dX_next_29 rfl (lv_at hl 0 rfl) ?_
      refine lv_goto (tgt := 34) hx hb dX_next_30 (by decide) ?_
      refine W.widen (k := 0) (n := 0) (Nat.le_of_ble_eq_true rfl) (Nat.le_of_ble_eq_true rfl) ?_
      exact W.iret (v := a + (sr_si N C a)) hx hb hr (fun t ht hW => ⟨⟨a + (sr_si N C a), (), rfl, (by simp only [c_6, c_26, ↓reduceIte]), by rw [ht]; exact hP, va_K.moved hW.alike hK, hD⟩, hS.F ht⟩) hS.2.2 dX_next_34
  · refine lv_iconst (v := 1) hx hb dX_next_9 (by decide) ?_
    refine lv_goto (tgt := 20) hx hb dX_next_10 (by decide) ?_
    refine lv_istore_n (lv' := [(2, .int 1), (0, .ref h), (1, .int a)]) hx hb dX_next_20 rfl hl (by decide) rfl (fun ls hl => ?_)
    refine lv_iload_n hx hb dX_next_21 rfl (lv_at hl 0 rfl) ?_
    refine lv_aload_n hx hb dX_next_22 rfl (lv_at hl 1 rfl) ?_
    refine va_get (D := D) (ci := 0) (v := .int us) (C := RX) (T := TX) (N := 11) hx hb hbg bg_X hown hK hP 0 rfl rfl 3 (by decide) (hbg _ bw_54) (fun _ h9 => h9) rfl dX_next_23 ?_
    refine lv_icmp_gt (tgt := 33) hx hb dX_next_26 (by decide) (fun c_26 => ?_) (fun c_26 => ?_)
    · refine lv_iconst (v := 0) hx hb dX_next_33 (by decide) ?_
      refine W.widen (k := 0) (n := 0) (Nat.le_of_ble_eq_true rfl) (Nat.le_of_ble_eq_true rfl) ?_
      exact W.iret (v := 0) hx hb hr (fun t ht hW => ⟨⟨0, (), rfl, (by simp only [c_6, c_26, ↓reduceIte]), by rw [ht]; exact hP, va_K.moved hW.alike hK, hD⟩, hS.F ht⟩) hS.2.2 dX_next_34
    · refine lv_iload_n hx hb dX_next_29 rfl (lv_at hl 0 rfl) ?_
      refine lv_goto (tgt := 34) hx hb dX_next_30 (by decide) ?_
      refine W.widen (k := 0) (n := 0) (Nat.le_of_ble_eq_true rfl) (Nat.le_of_ble_eq_true rfl) ?_
      exact W.iret (v := 1) hx hb hr (fun t ht hW => ⟨⟨1, (), rfl, (by simp only [c_6, c_26, ↓reduceIte]), by rw [ht]; exact hP, va_K.moved hW.alike hK, hD⟩, hS.F ht⟩) hS.2.2 dX_next_34

set_option maxHeartbeats 4000000 in
set_option maxRecDepth 100000 in
theorem ct_X_next_b (l : Launch) (D : va_G) (h rr cc : Nat) (cI : ClassId) (N : Nat) (R C : Nat → Int32) (li us ob sl go gi fr la re : Int32) (sz : Nat) (a : Int32) (hN : N < 2 ^ 31) (hst : l.stackTraces = false) (h0 : ¬ a = 0) (h3 : sr_isO N C a ob.toNatClampNeg 1 = false) : sy_Mx l yX_next (Cond.code yX_next bX_next 3 (some .int) :: sr_big) { frames := 8, cells := 1, slots := 6, locals := 132 } D vwC [(cI, .int)] [.ref h, .int a] (wX h rr cc cI N R C li us ob sl go gi fr la re) sz sx_NSE 1 6 := by
  refine vx_ofW (cc := bX_next) (maxL := 3) (ret := (some .int)) (by decide) rfl ?_
  intro p e s m args below meth c s₁ B hml htab hv
  obtain ⟨rfl, ⟨hsz, hP, hK, hD0⟩, hG⟩ := hv
  have hx := B.exec
  have hb := B.bytes
  have hr := B.returns
  have hbg : ∀ w ∈ sr_big, w.before _ s = true := fun w h => atoms_spec (ws := Cond.code yX_next bX_next 3 (some .int) :: sr_big) B.pre w (List.mem_cons_of_mem _ h)
  have hown : s.vm.findClass RX = some m.cls := findClass_of_methodNamed B.named
  have hlocks := B.notSynchronized
  subst hsz
  have hD := hD0.self (sz := s.heap.size)
  generalize hAe : va_A (wX h rr cc cI N R C li us ob sl go gi fr la re) s.heap.size = A at *
  have hA : ∀ q : Nat, s.heap.size ≤ q → A q := fun q h => by rw [← hAe]; exact Or.inr h
  have hS : va_S A s.heap s.heap [] := va_S.rf
  have hl := lv_entry ([.ref h, .int a]) (n := 3) (Nat.le_of_ble_eq_true rfl)
  rw [lg_entry_eq]
  generalize (lg_sl ([.ref h, .int a]) ++ List.replicate (3 - (lg_sl ([.ref h, .int a])).length) Slot.unset).toArray = ls at hl ⊢
  have hl : lv_has ls 3 [(0, .ref h), (1, .int a)] := hl
  refine lv_aload_n hx hb dX_next_0 rfl (lv_at hl 0 rfl) ?_
  refine lv_iload_n hx hb dX_next_1 rfl (lv_at hl 1 rfl) ?_
  refine sy_cVx (wc := wX h rr cc cI N R C li us ob sl go gi fr la re) (wr := []) (ci := 0) (q0 := 0) (As := [.int a]) (rest := []) ⟨hx, hb, hml, hown, hbg⟩ (ct_X_needObjectOrNothing_b l D h rr cc cI N R C li us ob sl go gi fr la re s.heap.size a hN hst h0 h3) (cwV 1 hbg (bg_V bw_232 bw_233 bw_20 bw_34 bw_234) rfl rfl rfl (by decide +kernel) ⟨Nat.le_of_ble_eq_true rfl, Nat.le_of_ble_eq_true rfl⟩) hK [0] rfl hP hD hS hA hG [0, 1, 2] [] rfl rfl rfl rfl (by decide) rfl rfl rfl hl.1 rfl (Nat.le_of_ble_eq_true rfl) dX_next_2 ⟨Nat.le_of_ble_eq_true rfl, Nat.le_of_ble_eq_true rfl⟩ (fun q ce H locs hP hD hS hcell hcv hcl => ?_)
  exact sy_outx htab hlocks hP hK hD hS hcell hcv hcl (Nat.le_of_ble_eq_true rfl) (Nat.le_of_ble_eq_true rfl)

set_option maxHeartbeats 4000000 in
set_option maxRecDepth 100000 in
theorem ct_X_count_0 (l : Launch) (D : va_G) (h rr cc : Nat) (cI : ClassId) (N : Nat) (R C : Nat → Int32) (li us ob sl go gi fr la re : Int32) (sz : Nat) (hN : N < 2 ^ 31) : sy_Mi l yX_count (Cond.code yX_count bX_count 2 (some .int) :: sr_big) { frames := 6, cells := 0, slots := 0, locals := 90 } D vwC [(cI, .int)] [.ref h, .int 0] (wX h rr cc cI N R C li us ob sl go gi fr la re) sz ob (wX h rr cc cI N R C li us ob sl go gi fr la re) 0 0 := by
  refine Met.ofW (cc := bX_count) (maxL := 2) (ret := (some .int)) (by decide) rfl ?_
  intro p e s m args below meth c s₁ B hml hv
  obtain ⟨rfl, hsz, hP, hK, hD0⟩ := hv
  have hx := B.exec
  have hb := B.bytes
  have hr := B.returns
  have hbg : ∀ w ∈ sr_big, w.before _ s = true := fun w h => atoms_spec (ws := Cond.code yX_count bX_count 2 (some .int) :: sr_big) B.pre w (List.mem_cons_of_mem _ h)
  have hown : s.vm.findClass RX = some m.cls := findClass_of_methodNamed B.named
  have hlocks := B.notSynchronized
  subst hsz
  have hD := hD0.self (sz := s.heap.size)
  generalize hAe : va_A (wX h rr cc cI N R C li us ob sl go gi fr la re) s.heap.size = A at *
  have hA : ∀ q : Nat, s.heap.size ≤ q → A q := fun q h => by rw [← hAe]; exact Or.inr h
  have hS : va_S A s.heap s.heap [] := va_S.rf
  have hl := lv_entry ([.ref h, .int 0]) (n := 2) (Nat.le_of_ble_eq_true rfl)
  rw [lg_entry_eq]
  generalize (lg_sl ([.ref h, .int 0]) ++ List.replicate (2 - (lg_sl ([.ref h, .int 0])).length) Slot.unset).toArray = ls at hl ⊢
  have hl : lv_has ls 2 [(0, .ref h), (1, .int 0)] := hl
  refine lv_iload_n hx hb dX_count_0 rfl (lv_at hl 1 rfl) ?_
  refine lv_tableIn (off := 43) (tgt := 44) hx hb dX_count_1 (by decide) (by decide) rfl (by decide) ?_
  refine lv_aload_n hx hb dX_count_44 rfl (lv_at hl 0 rfl) ?_
  refine va_get (D := D) (ci := 0) (v := .int ob) (C := RX) (T := TX) (N := 11) hx hb hbg bg_X hown hK hP 0 rfl rfl 4 (by decide) (hbg _ bw_55) (fun _ h9 => h9) rfl dX_count_45 ?_
  refine W.widen (k := 0) (n := 0) (Nat.le_of_ble_eq_true rfl) (Nat.le_of_ble_eq_true rfl) ?_
  exact W.iret (v := ob) hx hb hr (fun t ht hW => ⟨⟨ob, (), rfl, rfl, by rw [ht]; exact hP, va_K.moved hW.alike hK, hD⟩, hS.F ht⟩) hS.2.2 dX_count_48

set_option maxHeartbeats 4000000 in
set_option maxRecDepth 100000 in
theorem ct_X_count_1 (l : Launch) (D : va_G) (h rr cc : Nat) (cI : ClassId) (N : Nat) (R C : Nat → Int32) (li us ob sl go gi fr la re : Int32) (sz : Nat) (hN : N < 2 ^ 31) : sy_Mi l yX_count (Cond.code yX_count bX_count 2 (some .int) :: sr_big) { frames := 6, cells := 0, slots := 0, locals := 90 } D vwC [(cI, .int)] [.ref h, .int 1] (wX h rr cc cI N R C li us ob sl go gi fr la re) sz us (wX h rr cc cI N R C li us ob sl go gi fr la re) 0 0 := by
  refine Met.ofW (cc := bX_count) (maxL := 2) (ret := (some .int)) (by decide) rfl ?_
  intro p e s m args below meth c s₁ B hml hv
  obtain ⟨rfl, hsz, hP, hK, hD0⟩ := hv
  have hx := B.exec
  have hb := B.bytes
  have hr := B.returns
  have hbg : ∀ w ∈ sr_big, w.before _ s = true := fun w h => atoms_spec (ws := Cond.code yX_count bX_count 2 (some .int) :: sr_big) B.pre w (List.mem_cons_of_mem _ h)
  have hown : s.vm.findClass RX = some m.cls := findClass_of_methodNamed B.named
  have hlocks := B.notSynchronized
  subst hsz
  have hD := hD0.self (sz := s.heap.size)
  generalize hAe : va_A (wX h rr cc cI N R C li us ob sl go gi fr la re) s.heap.size = A at *
  have hA : ∀ q : Nat, s.heap.size ≤ q → A q := fun q h => by rw [← hAe]; exact Or.inr h
  have hS : va_S A s.heap s.heap [] := va_S.rf
  have hl := lv_entry ([.ref h, .int 1]) (n := 2) (Nat.le_of_ble_eq_true rfl)
  rw [lg_entry_eq]
  generalize (lg_sl ([.ref h, .int 1]) ++ List.replicate (2 - (lg_sl ([.ref h, .int 1])).length) Slot.unset).toArray = ls at hl ⊢
  have hl : lv_has ls 2 [(0, .ref h), (1, .int 1)] := hl
  refine lv_iload_n hx hb dX_count_0 rfl (lv_at hl 1 rfl) ?_
  refine lv_tableIn (off := 48) (tgt := 49) hx hb dX_count_1 (by decide) (by decide) rfl (by decide) ?_
  refine lv_aload_n hx hb dX_count_49 rfl (lv_at hl 0 rfl) ?_
  refine va_get (D := D) (ci := 0) (v := .int us) (C := RX) (T := TX) (N := 11) hx hb hbg bg_X hown hK hP 0 rfl rfl 3 (by decide) (hbg _ bw_54) (fun _ h9 => h9) rfl dX_count_50 ?_
  refine W.widen (k := 0) (n := 0) (Nat.le_of_ble_eq_true rfl) (Nat.le_of_ble_eq_true rfl) ?_
  exact W.iret (v := us) hx hb hr (fun t ht hW => ⟨⟨us, (), rfl, rfl, by rw [ht]; exact hP, va_K.moved hW.alike hK, hD⟩, hS.F ht⟩) hS.2.2 dX_count_53

set_option maxHeartbeats 4000000 in
set_option maxRecDepth 100000 in
theorem ct_X_count_2 (l : Launch) (D : va_G) (h rr cc : Nat) (cI : ClassId) (N : Nat) (R C : Nat → Int32) (li us ob sl go gi fr la re : Int32) (sz : Nat) (hN : N < 2 ^ 31) : sy_Mi l yX_count (Cond.code yX_count bX_count 2 (some .int) :: sr_big) { frames := 6, cells := 0, slots := 0, locals := 90 } D vwC [(cI, .int)] [.ref h, .int 2] (wX h rr cc cI N R C li us ob sl go gi fr la re) sz ((sr_chR N R ob.toNatClampNeg C).2.2.2) (wX h rr cc cI N R ((sr_chR N R ob.toNatClampNeg C).1) li us ob sl go gi ((sr_chR N R ob.toNatClampNeg C).2.1) ((sr_chR N R ob.toNatClampNeg C).2.2.1) ((sr_chR N R ob.toNatClampNeg C).2.2.2)) 0 0 := by
  refine Met.ofW (cc := bX_count) (maxL := 2) (ret := (some .int)) (by decide) rfl ?_
  intro p e s m args below meth c s₁ B hml hv
  obtain ⟨rfl, hsz, hP, hK, hD0⟩ := hv
  have hx := B.exec
  have hb := B.bytes
  have hr := B.returns
  have hbg : ∀ w ∈ sr_big, w.before _ s = true := fun w h => atoms_spec (ws := Cond.code yX_count bX_count 2 (some .int) :: sr_big) B.pre w (List.mem_cons_of_mem _ h)
  have hown : s.vm.findClass RX = some m.cls := findClass_of_methodNamed B.named
  have hlocks := B.notSynchronized
  subst hsz
  have hD := hD0.self (sz := s.heap.size)
  generalize hAe : va_A (wX h rr cc cI N R C li us ob sl go gi fr la re) s.heap.size = A at *
  have hA : ∀ q : Nat, s.heap.size ≤ q → A q := fun q h => by rw [← hAe]; exact Or.inr h
  have hS : va_S A s.heap s.heap [] := va_S.rf
  have hl := lv_entry ([.ref h, .int 2]) (n := 2) (Nat.le_of_ble_eq_true rfl)
  rw [lg_entry_eq]
  generalize (lg_sl ([.ref h, .int 2]) ++ List.replicate (2 - (lg_sl ([.ref h, .int 2])).length) Slot.unset).toArray = ls at hl ⊢
  have hl : lv_has ls 2 [(0, .ref h), (1, .int 2)] := hl
  refine lv_iload_n hx hb dX_count_0 rfl (lv_at hl 1 rfl) ?_
  refine lv_tableIn (off := 53) (tgt := 54) hx hb dX_count_1 (by decide) (by decide) rfl (by decide) ?_
  refine lv_aload_n hx hb dX_count_54 rfl (lv_at hl 0 rfl) ?_
  refine sy_cVv (wc := wX h rr cc cI N R C li us ob sl go gi fr la re) (wr := []) (w1 := wX h rr cc cI N R ((sr_chR N R ob.toNatClampNeg C).1) li us ob sl go gi ((sr_chR N R ob.toNatClampNeg C).2.1) ((sr_chR N R ob.toNatClampNeg C).2.2.1) ((sr_chR N R ob.toNatClampNeg C).2.2.2)) (ci := 0) (q0 := 0) (As := []) (rest := []) ⟨hx, hb, hml, hown, hbg⟩ (ct_X_chainReached l D h rr cc cI N R C li us ob sl go gi fr la re s.heap.size  hN) (cwV 0 hbg (bg_V bw_78 bw_79 bw_0 bw_34 bw_80) rfl rfl rfl (by decide +kernel) ⟨Nat.le_of_ble_eq_true rfl, Nat.le_of_ble_eq_true rfl⟩) hK [0] rfl hP hD hS hA [0, 1, 2] [] rfl rfl rfl rfl (by decide) rfl rfl rfl hl.1 rfl (Nat.le_of_ble_eq_true rfl) dX_count_55 ⟨Nat.le_of_ble_eq_true rfl, Nat.le_of_ble_eq_true rfl⟩ (fun H locs hP hD hS => ?_)
  have hP : va_P D vwC (wX h rr cc cI N R ((sr_chR N R ob.toNatClampNeg C).1) li us ob sl go gi ((sr_chR N R ob.toNatClampNeg C).2.1) ((sr_chR N R ob.toNatClampNeg C).2.2.1) ((sr_chR N R ob.toNatClampNeg C).2.2.2)) H := hP
  have hD : va_D A (wX h rr cc cI N R ((sr_chR N R ob.toNatClampNeg C).1) li us ob sl go gi ((sr_chR N R ob.toNatClampNeg C).2.1) ((sr_chR N R ob.toNatClampNeg C).2.2.1) ((sr_chR N R ob.toNatClampNeg C).2.2.2)) := hD
  refine lv_aload_n hx hb dX_count_58 rfl (lv_at hl 0 rfl) ?_
  refine va_get (D := D) (ci := 0) (v := .int ((sr_chR N R ob.toNatClampNeg C).2.2.2)) (C := RX) (T := TX) (N := 11) hx hb hbg bg_X hown hK hP 0 rfl rfl 10 (by decide) (hbg _ bw_61) (fun _ h9 => h9) rfl dX_count_59 ?_
  refine W.widen (k := 0) (n := 0) (Nat.le_of_ble_eq_true rfl) (Nat.le_of_ble_eq_true rfl) ?_
  exact W.iret (v := (sr_chR N R ob.toNatClampNeg C).2.2.2) hx hb hr (fun t ht hW => ⟨⟨(sr_chR N R ob.toNatClampNeg C).2.2.2, (), rfl, rfl, by rw [ht]; exact hP, va_K.moved hW.alike hK, hD⟩, hS.F ht⟩) hS.2.2 dX_count_62

set_option maxHeartbeats 4000000 in
set_option maxRecDepth 100000 in
theorem ct_X_count_3 (l : Launch) (D : va_G) (h rr cc : Nat) (cI : ClassId) (N : Nat) (R C : Nat → Int32) (li us ob sl go gi fr la re : Int32) (sz : Nat) (hN : N < 2 ^ 31) : sy_Mi l yX_count (Cond.code yX_count bX_count 2 (some .int) :: sr_big) { frames := 6, cells := 0, slots := 0, locals := 90 } D vwC [(cI, .int)] [.ref h, .int 3] (wX h rr cc cI N R C li us ob sl go gi fr la re) sz sl (wX h rr cc cI N R C li us ob sl go gi fr la re) 0 0 := by
  refine Met.ofW (cc := bX_count) (maxL := 2) (ret := (some .int)) (by decide) rfl ?_
  intro p e s m args below meth c s₁ B hml hv
  obtain ⟨rfl, hsz, hP, hK, hD0⟩ := hv
  have hx := B.exec
  have hb := B.bytes
  have hr := B.returns
  have hbg : ∀ w ∈ sr_big, w.before _ s = true := fun w h => atoms_spec (ws := Cond.code yX_count bX_count 2 (some .int) :: sr_big) B.pre w (List.mem_cons_of_mem _ h)
  have hown : s.vm.findClass RX = some m.cls := findClass_of_methodNamed B.named
  have hlocks := B.notSynchronized
  subst hsz
  have hD := hD0.self (sz := s.heap.size)
  generalize hAe : va_A (wX h rr cc cI N R C li us ob sl go gi fr la re) s.heap.size = A at *
  have hA : ∀ q : Nat, s.heap.size ≤ q → A q := fun q h => by rw [← hAe]; exact Or.inr h
  have hS : va_S A s.heap s.heap [] := va_S.rf
  have hl := lv_entry ([.ref h, .int 3]) (n := 2) (Nat.le_of_ble_eq_true rfl)
  rw [lg_entry_eq]
  generalize (lg_sl ([.ref h, .int 3]) ++ List.replicate (2 - (lg_sl ([.ref h, .int 3])).length) Slot.unset).toArray = ls at hl ⊢
  have hl : lv_has ls 2 [(0, .ref h), (1, .int 3)] := hl
  refine lv_iload_n hx hb dX_count_0 rfl (lv_at hl 1 rfl) ?_
  refine lv_tableIn (off := 62) (tgt := 63) hx hb dX_count_1 (by decide) (by decide) rfl (by decide) ?_
  refine lv_aload_n hx hb dX_count_63 rfl (lv_at hl 0 rfl) ?_
  refine va_get (D := D) (ci := 0) (v := .int sl) (C := RX) (T := TX) (N := 11) hx hb hbg bg_X hown hK hP 0 rfl rfl 5 (by decide) (hbg _ bw_56) (fun _ h9 => h9) rfl dX_count_64 ?_
  refine W.widen (k := 0) (n := 0) (Nat.le_of_ble_eq_true rfl) (Nat.le_of_ble_eq_true rfl) ?_
  exact W.iret (v := sl) hx hb hr (fun t ht hW => ⟨⟨sl, (), rfl, rfl, by rw [ht]; exact hP, va_K.moved hW.alike hK, hD⟩, hS.F ht⟩) hS.2.2 dX_count_67

set_option maxHeartbeats 4000000 in
set_option maxRecDepth 100000 in
theorem ct_X_count_4 (l : Launch) (D : va_G) (h rr cc : Nat) (cI : ClassId) (N : Nat) (R C : Nat → Int32) (li us ob sl go gi fr la re : Int32) (sz : Nat) (hN : N < 2 ^ 31) : sy_Mi l yX_count (Cond.code yX_count bX_count 2 (some .int) :: sr_big) { frames := 6, cells := 0, slots := 0, locals := 90 } D vwC [(cI, .int)] [.ref h, .int 4] (wX h rr cc cI N R C li us ob sl go gi fr la re) sz go (wX h rr cc cI N R C li us ob sl go gi fr la re) 0 0 := by
  refine Met.ofW (cc := bX_count) (maxL := 2) (ret := (some .int)) (by decide) rfl ?_
  intro p e s m args below meth c s₁ B hml hv
  obtain ⟨rfl, hsz, hP, hK, hD0⟩ := hv
  have hx := B.exec
  have hb := B.bytes
  have hr := B.returns
  have hbg : ∀ w ∈ sr_big, w.before _ s = true := fun w h => atoms_spec (ws := Cond.code yX_count bX_count 2 (some .int) :: sr_big) B.pre w (List.mem_cons_of_mem _ h)
  have hown : s.vm.findClass RX = some m.cls := findClass_of_methodNamed B.named
  have hlocks := B.notSynchronized
  subst hsz
  have hD := hD0.self (sz := s.heap.size)
  generalize hAe : va_A (wX h rr cc cI N R C li us ob sl go gi fr la re) s.heap.size = A at *
  have hA : ∀ q : Nat, s.heap.size ≤ q → A q := fun q h => by rw [← hAe]; exact Or.inr h
  have hS : va_S A s.heap s.heap [] := va_S.rf
  have hl := lv_entry ([.ref h, .int 4]) (n := 2) (Nat.le_of_ble_eq_true rfl)
  rw [lg_entry_eq]
  generalize (lg_sl ([.ref h, .int 4]) ++ List.replicate (2 - (lg_sl ([.ref h, .int 4])).length) Slot.unset).toArray = ls at hl ⊢
  have hl : lv_has ls 2 [(0, .ref h), (1, .int 4)] := hl
  refine lv_iload_n hx hb dX_count_0 rfl (lv_at hl 1 rfl) ?_
  refine lv_tableIn (off := 67) (tgt := 68) hx hb dX_count_1 (by decide) (by decide) rfl (by decide) ?_
  refine lv_aload_n hx hb dX_count_68 rfl (lv_at hl 0 rfl) ?_
  refine va_get (D := D) (ci := 0) (v := .int go) (C := RX) (T := TX) (N := 11) hx hb hbg bg_X hown hK hP 0 rfl rfl 6 (by decide) (hbg _ bw_57) (fun _ h9 => h9) rfl dX_count_69 ?_
  refine W.widen (k := 0) (n := 0) (Nat.le_of_ble_eq_true rfl) (Nat.le_of_ble_eq_true rfl) ?_
  exact W.iret (v := go) hx hb hr (fun t ht hW => ⟨⟨go, (), rfl, rfl, by rw [ht]; exact hP, va_K.moved hW.alike hK, hD⟩, hS.F ht⟩) hS.2.2 dX_count_72

set_option maxHeartbeats 4000000 in
set_option maxRecDepth 100000 in
theorem ct_X_count_5 (l : Launch) (D : va_G) (h rr cc : Nat) (cI : ClassId) (N : Nat) (R C : Nat → Int32) (li us ob sl go gi fr la re : Int32) (sz : Nat) (hN : N < 2 ^ 31) : sy_Mi l yX_count (Cond.code yX_count bX_count 2 (some .int) :: sr_big) { frames := 6, cells := 0, slots := 0, locals := 90 } D vwC [(cI, .int)] [.ref h, .int 5] (wX h rr cc cI N R C li us ob sl go gi fr la re) sz gi (wX h rr cc cI N R C li us ob sl go gi fr la re) 0 0 := by
  refine Met.ofW (cc := bX_count) (maxL := 2) (ret := (some .int)) (by decide) rfl ?_
  intro p e s m args below meth c s₁ B hml hv
  obtain ⟨rfl, hsz, hP, hK, hD0⟩ := hv
  have hx := B.exec
  have hb := B.bytes
  have hr := B.returns
  have hbg : ∀ w ∈ sr_big, w.before _ s = true := fun w h => atoms_spec (ws := Cond.code yX_count bX_count 2 (some .int) :: sr_big) B.pre w (List.mem_cons_of_mem _ h)
  have hown : s.vm.findClass RX = some m.cls := findClass_of_methodNamed B.named
  have hlocks := B.notSynchronized
  subst hsz
  have hD := hD0.self (sz := s.heap.size)
  generalize hAe : va_A (wX h rr cc cI N R C li us ob sl go gi fr la re) s.heap.size = A at *
  have hA : ∀ q : Nat, s.heap.size ≤ q → A q := fun q h => by rw [← hAe]; exact Or.inr h
  have hS : va_S A s.heap s.heap [] := va_S.rf
  have hl := lv_entry ([.ref h, .int 5]) (n := 2) (Nat.le_of_ble_eq_true rfl)
  rw [lg_entry_eq]
  generalize (lg_sl ([.ref h, .int 5]) ++ List.replicate (2 - (lg_sl ([.ref h, .int 5])).length) Slot.unset).toArray = ls at hl ⊢
  have hl : lv_has ls 2 [(0, .ref h), (1, .int 5)] := hl
  refine lv_iload_n hx hb dX_count_0 rfl (lv_at hl 1 rfl) ?_
  refine lv_tableIn (off := 72) (tgt := 73) hx hb dX_count_1 (by decide) (by decide) rfl (by decide) ?_
  refine lv_aload_n hx hb dX_count_73 rfl (lv_at hl 0 rfl) ?_
  refine va_get (D := D) (ci := 0) (v := .int gi) (C := RX) (T := TX) (N := 11) hx hb hbg bg_X hown hK hP 0 rfl rfl 7 (by decide) (hbg _ bw_58) (fun _ h9 => h9) rfl dX_count_74 ?_
  refine W.widen (k := 0) (n := 0) (Nat.le_of_ble_eq_true rfl) (Nat.le_of_ble_eq_true rfl) ?_
  exact W.iret (v := gi) hx hb hr (fun t ht hW => ⟨⟨gi, (), rfl, rfl, by rw [ht]; exact hP, va_K.moved hW.alike hK, hD⟩, hS.F ht⟩) hS.2.2 dX_count_77

set_option maxHeartbeats 4000000 in
set_option maxRecDepth 100000 in
theorem ct_X_count_6 (l : Launch) (D : va_G) (h rr cc : Nat) (cI : ClassId) (N : Nat) (R C : Nat → Int32) (li us ob sl go gi fr la re : Int32) (sz : Nat) (hN : N < 2 ^ 31) : sy_Mi l yX_count (Cond.code yX_count bX_count 2 (some .int) :: sr_big) { frames := 6, cells := 0, slots := 0, locals := 90 } D vwC [(cI, .int)] [.ref h, .int 6] (wX h rr cc cI N R C li us ob sl go gi fr la re) sz li (wX h rr cc cI N R C li us ob sl go gi fr la re) 0 0 := by
  refine Met.ofW (cc := bX_count) (maxL := 2) (ret := (some .int)) (by decide) rfl ?_
  intro p e s m args below meth c s₁ B hml hv
  obtain ⟨rfl, hsz, hP, hK, hD0⟩ := hv
  have hx := B.exec
  have hb := B.bytes
  have hr := B.returns
  have hbg : ∀ w ∈ sr_big, w.before _ s = true := fun w h => atoms_spec (ws := Cond.code yX_count bX_count 2 (some .int) :: sr_big) B.pre w (List.mem_cons_of_mem _ h)
  have hown : s.vm.findClass RX = some m.cls := findClass_of_methodNamed B.named
  have hlocks := B.notSynchronized
  subst hsz
  have hD := hD0.self (sz := s.heap.size)
  generalize hAe : va_A (wX h rr cc cI N R C li us ob sl go gi fr la re) s.heap.size = A at *
  have hA : ∀ q : Nat, s.heap.size ≤ q → A q := fun q h => by rw [← hAe]; exact Or.inr h
  have hS : va_S A s.heap s.heap [] := va_S.rf
  have hl := lv_entry ([.ref h, .int 6]) (n := 2) (Nat.le_of_ble_eq_true rfl)
  rw [lg_entry_eq]
  generalize (lg_sl ([.ref h, .int 6]) ++ List.replicate (2 - (lg_sl ([.ref h, .int 6])).length) Slot.unset).toArray = ls at hl ⊢
  have hl : lv_has ls 2 [(0, .ref h), (1, .int 6)] := hl
  refine lv_iload_n hx hb dX_count_0 rfl (lv_at hl 1 rfl) ?_
  refine lv_tableIn (off := 77) (tgt := 78) hx hb dX_count_1 (by decide) (by decide) rfl (by decide) ?_
  refine lv_aload_n hx hb dX_count_78 rfl (lv_at hl 0 rfl) ?_
  refine va_get (D := D) (ci := 0) (v := .int li) (C := RX) (T := TX) (N := 11) hx hb hbg bg_X hown hK hP 0 rfl rfl 2 (by decide) (hbg _ bw_53) (fun _ h9 => h9) rfl dX_count_79 ?_
  refine W.widen (k := 0) (n := 0) (Nat.le_of_ble_eq_true rfl) (Nat.le_of_ble_eq_true rfl) ?_
  exact W.iret (v := li) hx hb hr (fun t ht hW => ⟨⟨li, (), rfl, rfl, by rw [ht]; exact hP, va_K.moved hW.alike hK, hD⟩, hS.F ht⟩) hS.2.2 dX_count_82

set_option maxHeartbeats 4000000 in
set_option maxRecDepth 100000 in
theorem ct_X_count_b (l : Launch) (D : va_G) (h rr cc : Nat) (cI : ClassId) (N : Nat) (R C : Nat → Int32) (li us ob sl go gi fr la re : Int32) (sz : Nat) (x : Int32) (hN : N < 2 ^ 31) (hst : l.stackTraces = false) (hg : x.toInt < 0 ∨ 6 < x.toInt) : sy_Mx l yX_count (Cond.code yX_count bX_count 2 (some .int) :: sr_big) { frames := 6, cells := 1, slots := 6, locals := 90 } D vwC [(cI, .int)] [.ref h, .int x] (wX h rr cc cI N R C li us ob sl go gi fr la re) sz sx_IAE 1 6 := by
  refine vx_ofW (cc := bX_count) (maxL := 2) (ret := (some .int)) (by decide) rfl ?_
  intro p e s m args below meth c s₁ B hml htab hv
  obtain ⟨rfl, ⟨hsz, hP, hK, hD0⟩, hG⟩ := hv
  have hx := B.exec
  have hb := B.bytes
  have hr := B.returns
  have hbg : ∀ w ∈ sr_big, w.before _ s = true := fun w h => atoms_spec (ws := Cond.code yX_count bX_count 2 (some .int) :: sr_big) B.pre w (List.mem_cons_of_mem _ h)
  have hown : s.vm.findClass RX = some m.cls := findClass_of_methodNamed B.named
  have hlocks := B.notSynchronized
  subst hsz
  have hD := hD0.self (sz := s.heap.size)
  generalize hAe : va_A (wX h rr cc cI N R C li us ob sl go gi fr la re) s.heap.size = A at *
  have hA : ∀ q : Nat, s.heap.size ≤ q → A q := fun q h => by rw [← hAe]; exact Or.inr h
  have hS : va_S A s.heap s.heap [] := va_S.rf
  have hl := lv_entry ([.ref h, .int x]) (n := 2) (Nat.le_of_ble_eq_true rfl)
  rw [lg_entry_eq]
  generalize (lg_sl ([.ref h, .int x]) ++ List.replicate (2 - (lg_sl ([.ref h, .int x])).length) Slot.unset).toArray = ls at hl ⊢
  have hl : lv_has ls 2 [(0, .ref h), (1, .int x)] := hl
  refine lv_iload_n hx hb dX_count_0 rfl (lv_at hl 1 rfl) ?_
  refine lv_tableOut (tgt := 83) hx hb dX_count_1 hg (by decide) ?_
  exact sy_throw (E := sx_IAE) (text := "what is not 0 .. 6") (Or.inl ⟨rfl, rfl, rfl, rfl, rfl⟩) hx hb hst hown hbg (by decide) hG hP hK hD hS (hl.1.trans hml.symm) dX_count_83 dX_count_86 dX_count_87 dX_count_89 dX_count_92 htab (Nat.le_of_ble_eq_true rfl) (Nat.le_of_ble_eq_true rfl) (Nat.le_of_ble_eq_true rfl) (Nat.le_of_ble_eq_true rfl) hlocks (Nat.le_of_ble_eq_true rfl) (Nat.le_of_ble_eq_true rfl)
end
