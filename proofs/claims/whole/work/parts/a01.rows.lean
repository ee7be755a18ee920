/-! THE ROW OF CELLS, PURE: objects one behind another; where they stand; what is reached; what a slide makes of them -/
/-- an object: how many fields, how many words, its number (0: none yet), its contents (fields, then words) -/
abbrev sr_O : Type := Nat × Nat × Int32 × (Nat → Int32)
def sr_sz (o : sr_O) : Nat := 3 + o.1 + o.2.1
def sr_tot : List sr_O → Nat
  | [] => 0
  | o :: os => sr_sz o + sr_tot os
/-- at p stands the object x, where the first of them stands at a -/
def sr_ob : Nat → List sr_O → Nat → sr_O → Prop
  | _, [], _, _ => False
  | a, o :: os, p, x => (p = a ∧ x = o) ∨ sr_ob (a + sr_sz o) os p x
def sr_ok (os : List sr_O) : Prop := ∀ o ∈ os, o.1 ≤ 2000 ∧ o.2.1 ≤ 2000
theorem sr_sz3 (o : sr_O) : 3 ≤ sr_sz o := by unfold sr_sz; omega
theorem sr_tot_app : ∀ (xs ys : List sr_O), sr_tot (xs ++ ys) = sr_tot xs + sr_tot ys
  | [], ys => by simp [sr_tot]
  | x :: xs, ys => by
    simp only [List.cons_append, sr_tot, sr_tot_app xs ys]
    omega
theorem sr_len_tot : ∀ (os : List sr_O), 3 * os.length ≤ sr_tot os
  | [] => by simp [sr_tot]
  | o :: os => by
    have h := sr_len_tot os
    have h2 := sr_sz3 o
    simp only [List.length_cons, sr_tot]
    omega
theorem sr_ob_app : ∀ (xs ys : List sr_O) (a p : Nat) (o : sr_O), sr_ob a (xs ++ ys) p o ↔ sr_ob a xs p o ∨ sr_ob (a + sr_tot xs) ys p o
  | [], ys, a, p, o => by simp [sr_ob, sr_tot]
  | x :: xs, ys, a, p, o => by
    simp only [List.cons_append, sr_ob, sr_tot, sr_ob_app xs ys (a + sr_sz x) p o, Nat.add_assoc, or_assoc]
theorem sr_ob_bd : ∀ (os : List sr_O) (a p : Nat) (o : sr_O), sr_ob a os p o → a ≤ p ∧ p + sr_sz o ≤ a + sr_tot os
  | [], _, _, _, h => h.elim
  | x :: xs, a, p, o, h => by
    have h3 := sr_sz3 x
    simp only [sr_tot]
    rcases h with ⟨rfl, rfl⟩ | h
    · omega
    · have := sr_ob_bd xs _ _ _ h
      omega
theorem sr_ob_mem : ∀ (os : List sr_O) (a p : Nat) (o : sr_O), sr_ob a os p o → o ∈ os
  | [], _, _, _, h => h.elim
  | x :: xs, a, p, o, h => by
    rcases h with ⟨-, rfl⟩ | h
    · exact List.mem_cons_self
    · exact List.mem_cons_of_mem _ (sr_ob_mem xs _ _ _ h)
/-- two of them are one, or stand apart -/
theorem sr_ob_sep : ∀ (os : List sr_O) (a p q : Nat) (o x : sr_O), sr_ob a os p o → sr_ob a os q x → (p = q ∧ o = x) ∨ p + sr_sz o ≤ q ∨ q + sr_sz x ≤ p
  | [], _, _, _, _, _, h, _ => h.elim
  | y :: ys, a, p, q, o, x, h, g => by
    rcases h with ⟨rfl, rfl⟩ | h <;> rcases g with ⟨hq, rfl⟩ | g
    · exact Or.inl ⟨hq.symm, rfl⟩
    · exact Or.inr (Or.inl (sr_ob_bd ys _ _ _ g).1)
    · subst hq
      exact Or.inr (Or.inr (sr_ob_bd ys _ _ _ h).1)
    · exact sr_ob_sep ys _ _ _ _ _ h g
theorem sr_ob_eq {os : List sr_O} {a p : Nat} {o x : sr_O} (h : sr_ob a os p o) (g : sr_ob a os p x) : o = x := by
  rcases sr_ob_sep os a p p o x h g with h1 | h1 | h1
  · exact h1.2
  · have := sr_sz3 o
    omega
  · have := sr_sz3 x
    omega
theorem sr_ob_split : ∀ (os : List sr_O) (a p : Nat) (o : sr_O), sr_ob a os p o → ∃ xs ys, os = xs ++ o :: ys ∧ p = a + sr_tot xs
  | [], _, _, _, h => h.elim
  | x :: xs, a, p, o, h => by
    rcases h with ⟨rfl, rfl⟩ | h
    · exact ⟨[], xs, rfl, by simp [sr_tot]⟩
    · obtain ⟨us, vs, h1, h2⟩ := sr_ob_split xs _ _ _ h
      exact ⟨x :: us, vs, by rw [h1]; rfl, by rw [h2, sr_tot]; omega⟩
theorem sr_ob_mid (xs : List sr_O) (o : sr_O) (ys : List sr_O) (a : Nat) : sr_ob a (xs ++ o :: ys) (a + sr_tot xs) o :=
  (sr_ob_app xs (o :: ys) a _ o).mpr (Or.inr (Or.inl ⟨rfl, rfl⟩))
/-! what a reads of the class's cells, of the model's arrays -/
def sr_ce (C : Nat → Int32) (p : Nat) (o : sr_O) : Prop := C p = nI (o.1 * 4096 + o.2.1) ∧ C (p + 1) = o.2.2.1 ∧ ∀ i, i < o.1 + o.2.1 → C (p + 3 + i) = o.2.2.2 i
def sr_hc (C : Nat → Int32) (a : Nat) (os : List sr_O) : Prop := ∀ p o, sr_ob a os p o → sr_ce C p o
theorem sr_hc_cons {C : Nat → Int32} {a : Nat} {o : sr_O} {os : List sr_O} : sr_hc C a (o :: os) ↔ sr_ce C a o ∧ sr_hc C (a + sr_sz o) os := by
  constructor
  · intro h
    exact ⟨h a o (Or.inl ⟨rfl, rfl⟩), fun p x hx => h p x (Or.inr hx)⟩
  · intro h p x hx
    rcases hx with ⟨rfl, rfl⟩ | hx
    · exact h.1
    · exact h.2 p x hx
theorem sr_hc_app {C : Nat → Int32} {a : Nat} {xs ys : List sr_O} : sr_hc C a (xs ++ ys) ↔ sr_hc C a xs ∧ sr_hc C (a + sr_tot xs) ys := by
  constructor
  · intro h
    exact ⟨fun p x hx => h p x ((sr_ob_app _ _ _ _ _).mpr (Or.inl hx)), fun p x hx => h p x ((sr_ob_app _ _ _ _ _).mpr (Or.inr hx))⟩
  · intro h p x hx
    rcases (sr_ob_app _ _ _ _ _).mp hx with hx | hx
    · exact h.1 p x hx
    · exact h.2 p x hx
theorem sr_ce_frame {C C' : Nat → Int32} {p : Nat} {o : sr_O} (h : sr_ce C p o) (hq : ∀ q, p ≤ q → q < p + sr_sz o → q ≠ p + 2 → C' q = C q) : sr_ce C' p o := by
  have hs : sr_sz o = 3 + o.1 + o.2.1 := rfl
  refine ⟨?_, ?_, fun i hi => ?_⟩
  · rw [hq p (Nat.le_refl _) (by omega) (by omega)]; exact h.1
  · rw [hq (p + 1) (by omega) (by omega) (by omega)]; exact h.2.1
  · rw [hq (p + 3 + i) (by omega) (by omega) (by omega)]; exact h.2.2 i hi
theorem sr_hc_frame {C C' : Nat → Int32} {a : Nat} {os : List sr_O} (h : sr_hc C a os) (hq : ∀ q, a ≤ q → q < a + sr_tot os → (∀ p o, sr_ob a os p o → q ≠ p + 2) → C' q = C q) : sr_hc C' a os := by
  intro p o ho
  have hb := sr_ob_bd os a p o ho
  refine sr_ce_frame (h p o ho) fun q h1 h2 h3 => hq q (by omega) (by omega) fun p' o' ho' hqe => ?_
  have h5 := sr_sz3 o'
  have h6 := sr_sz3 o
  rcases sr_ob_sep os a p p' o o' ho ho' with h4 | h4 | h4
  · exact h3 (by omega)
  · omega
  · omega
/-! reads and writes of the class: guarded -/
def sr_rd (N : Nat) (C : Nat → Int32) (i : Int32) : Int32 := if i < 1 then 0 else if nI N ≤ i then 0 else C i.toNatClampNeg
def sr_wr (N : Nat) (C : Nat → Int32) (i v : Int32) : Nat → Int32 := if i < 1 then C else if nI N ≤ i then C else upd C i.toNatClampNeg v
theorem sr_n1 {a : Nat} (h1 : 1 ≤ a) (h : a < 2 ^ 31) : ¬ nI a < 1 := nI_nlt (a := a) (b := 1) h1 h
theorem sr_rd_in {N : Nat} {C : Nat → Int32} {a : Nat} (h1 : 1 ≤ a) (h2 : a < N) (hN : N < 2 ^ 31) : sr_rd N C (nI a) = C a := by
  unfold sr_rd
  rw [if_neg (sr_n1 h1 (by omega)), if_neg (nI_ge h2 hN), nI_clamp (by omega)]
theorem sr_wr_in {N : Nat} {C : Nat → Int32} {a : Nat} {v : Int32} (h1 : 1 ≤ a) (h2 : a < N) (hN : N < 2 ^ 31) : sr_wr N C (nI a) v = upd C a v := by
  unfold sr_wr
  rw [if_neg (sr_n1 h1 (by omega)), if_neg (nI_ge h2 hN), nI_clamp (by omega)]
theorem sr_p (a b : Nat) : nI a + nI b = nI (a + b) := nI_add a b
/-- the shape's two halves -/
theorem sr_shr {f w : Nat} (hf : f ≤ 2000) (hw : w ≤ 2000) : nI (f * 4096 + w) >>> ((12 : Int32) &&& 31) = nI f := by
  rw [pk_shrN (by omega) _ 12 (by decide +kernel)]
  congr 1
  omega
theorem sr_and {f w : Nat} (hf : f ≤ 2000) (hw : w ≤ 2000) : nI (f * 4096 + w) &&& (4095 : Int32) = nI w := by
  rw [pk_andN (by omega) 12 (by decide +kernel)]
  congr 1
  omega
theorem sr_or {f w : Nat} (hf : f ≤ 2000) (hw : w ≤ 2000) : nI f <<< ((12 : Int32) &&& 31) ||| nI w = nI (f * 4096 + w) := by
  rw [pk_shlN _ 12 (by decide +kernel) (by omega)]
  apply Int32.toBitVec_inj.mp
  apply BitVec.eq_of_toNat_eq
  rw [Int32.toBitVec_or, BitVec.toNat_or, pk_tn (by omega), pk_tn (by omega), pk_tn (by omega)]
  have := Nat.two_pow_add_eq_or_of_lt (i := 12) (b := w) (by omega) f
  rw [Nat.mul_comm f (2 ^ 12), ← this]
/-- sizeOf, as the class counts it -/
def sr_si (N : Nat) (C : Nat → Int32) (a : Int32) : Int32 := 3 + (sr_rd N C (a + 0) >>> ((12 : Int32) &&& 31)) + (sr_rd N C (a + 0) &&& 4095)
def sr_fi (N : Nat) (C : Nat → Int32) (a : Int32) : Int32 := sr_rd N C (a + 0) >>> ((12 : Int32) &&& 31)
def sr_wi (N : Nat) (C : Nat → Int32) (a : Int32) : Int32 := sr_rd N C (a + 0) &&& 4095
theorem sr_a0 (a : Nat) : nI a + 0 = nI a := nI_add a 0
section Cells
variable {N : Nat} {C : Nat → Int32} {p : Nat} {o : sr_O}
theorem sr_fi_eq (h : sr_ce C p o) (hk : o.1 ≤ 2000 ∧ o.2.1 ≤ 2000) (h1 : 1 ≤ p) (h2 : p < N) (hN : N < 2 ^ 31) : sr_fi N C (nI p) = nI o.1 := by
  unfold sr_fi
  rw [sr_a0, sr_rd_in h1 h2 hN, h.1, sr_shr hk.1 hk.2]
theorem sr_wi_eq (h : sr_ce C p o) (hk : o.1 ≤ 2000 ∧ o.2.1 ≤ 2000) (h1 : 1 ≤ p) (h2 : p < N) (hN : N < 2 ^ 31) : sr_wi N C (nI p) = nI o.2.1 := by
  unfold sr_wi
  rw [sr_a0, sr_rd_in h1 h2 hN, h.1, sr_and hk.1 hk.2]
theorem sr_si_eq (h : sr_ce C p o) (hk : o.1 ≤ 2000 ∧ o.2.1 ≤ 2000) (h1 : 1 ≤ p) (h2 : p < N) (hN : N < 2 ^ 31) : sr_si N C (nI p) = nI (sr_sz o) := by
  show 3 + sr_fi N C (nI p) + sr_wi N C (nI p) = _
  rw [sr_fi_eq h hk h1 h2 hN, sr_wi_eq h hk h1 h2 hN]
  show nI 3 + nI o.1 + nI o.2.1 = _
  rw [nI_add, nI_add]
  rfl
end Cells
