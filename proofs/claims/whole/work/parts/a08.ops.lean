/-! ONE OBJECT CHANGES; ONE COMES -/
def sr_up (g : sr_O → sr_O) : Nat → List sr_O → Nat → List sr_O
  | _, [], _ => []
  | a, o :: os, p => if p = a then g o :: os else o :: sr_up g (a + sr_sz o) os p
def sr_gs (i : Nat) (v : Int32) (o : sr_O) : sr_O := (o.1, o.2.1, o.2.2.1, upd o.2.2.2 i v)
def sr_gn (v : Int32) (o : sr_O) : sr_O := (o.1, o.2.1, v, o.2.2.2)
def sr_sh (g : sr_O → sr_O) : Prop := ∀ o, (g o).1 = o.1 ∧ (g o).2.1 = o.2.1
theorem sr_gs_sh (i : Nat) (v : Int32) : sr_sh (sr_gs i v) := fun _ => ⟨rfl, rfl⟩
theorem sr_gn_sh (v : Int32) : sr_sh (sr_gn v) := fun _ => ⟨rfl, rfl⟩
section Up
variable {g : sr_O → sr_O} (hg : sr_sh g)
theorem sr_sh_sz {g : sr_O → sr_O} (hg : sr_sh g) (o : sr_O) : sr_sz (g o) = sr_sz o := by unfold sr_sz; rw [(hg o).1, (hg o).2]
theorem sr_up_tot {g : sr_O → sr_O} (hg : sr_sh g) : ∀ (os : List sr_O) (a p : Nat), sr_tot (sr_up g a os p) = sr_tot os
  | [], _, _ => rfl
  | o :: os, a, p => by
    simp only [sr_up]
    split
    · simp only [sr_tot, sr_sh_sz hg]
    · simp only [sr_tot, sr_up_tot hg os]
theorem sr_up_len {g : sr_O → sr_O} : ∀ (os : List sr_O) (a p : Nat), (sr_up g a os p).length = os.length
  | [], _, _ => rfl
  | o :: os, a, p => by
    simp only [sr_up]
    split
    · rfl
    · simp only [List.length_cons, sr_up_len os]
theorem sr_up_ok {g : sr_O → sr_O} (hg : sr_sh g) : ∀ (os : List sr_O) (a p : Nat), sr_ok os → sr_ok (sr_up g a os p)
  | [], _, _, h => h
  | o :: os, a, p, h => by
    have hh : sr_ok os := fun y hy => h y (List.mem_cons_of_mem _ hy)
    simp only [sr_up]
    split
    · intro x hx
      rcases List.mem_cons.mp hx with rfl | hx
      · rw [(hg o).1, (hg o).2]; exact h o List.mem_cons_self
      · exact hh x hx
    · intro x hx
      rcases List.mem_cons.mp hx with rfl | hx
      · exact h _ List.mem_cons_self
      · exact sr_up_ok hg os _ _ hh x hx
theorem sr_up_ob {g : sr_O → sr_O} (hg : sr_sh g) : ∀ (os : List sr_O) (a p q : Nat) (x : sr_O), sr_ob a (sr_up g a os p) q x → (q = p ∧ ∃ o, sr_ob a os p o ∧ x = g o) ∨ (q ≠ p ∧ sr_ob a os q x)
  | [], _, _, _, _, h => h.elim
  | o :: os, a, p, q, x, h => by
    have h3 := sr_sz3 o
    simp only [sr_up] at h
    split at h
    · rename_i hpa
      subst hpa
      rcases h with ⟨rfl, rfl⟩ | h
      · exact Or.inl ⟨rfl, o, Or.inl ⟨rfl, rfl⟩, rfl⟩
      · rw [sr_sh_sz hg] at h
        have := (sr_ob_bd _ _ _ _ h).1
        exact Or.inr ⟨by omega, Or.inr h⟩
    · rename_i hpa
      rcases h with ⟨rfl, rfl⟩ | h
      · exact Or.inr ⟨fun z => hpa z.symm, Or.inl ⟨rfl, rfl⟩⟩
      · rcases sr_up_ob hg os _ _ _ _ h with ⟨h1, y, h2, h4⟩ | ⟨h1, h2⟩
        · exact Or.inl ⟨h1, y, Or.inr h2, h4⟩
        · exact Or.inr ⟨h1, Or.inr h2⟩
theorem sr_up_in {g : sr_O → sr_O} (hg : sr_sh g) : ∀ (os : List sr_O) (a p q : Nat) (x : sr_O), sr_ob a os q x → ∃ y, sr_ob a (sr_up g a os p) q y
  | [], _, _, _, _, h => h.elim
  | o :: os, a, p, q, x, h => by
    simp only [sr_up]
    split
    · rcases h with ⟨rfl, rfl⟩ | h
      · exact ⟨_, Or.inl ⟨rfl, rfl⟩⟩
      · exact ⟨x, Or.inr (by rw [sr_sh_sz hg]; exact h)⟩
    · rcases h with ⟨rfl, rfl⟩ | h
      · exact ⟨_, Or.inl ⟨rfl, rfl⟩⟩
      · obtain ⟨y, hy⟩ := sr_up_in hg os _ p _ _ h
        exact ⟨y, Or.inr hy⟩
end Up
theorem sr_up_ad {g : sr_O → sr_O} (hg : sr_sh g) {os : List sr_O} {p : Nat} {v : Int32} (h : sr_ad os v) : sr_ad (sr_up g 1 os p) v := by
  rcases h with h | ⟨q, x, hq, he⟩
  · exact Or.inl h
  · obtain ⟨y, hy⟩ := sr_up_in hg os 1 p q x hq
    exact Or.inr ⟨q, y, hy, he⟩
theorem sr_up_hz {g : sr_O → sr_O} (hg : sr_sh g) {os : List sr_O} {p : Nat} {F : Nat → Int32} (h : sr_hz F os) : sr_hz F (sr_up g 1 os p) := fun q h1 h2 => h q (fun o ho => by
  obtain ⟨y, hy⟩ := sr_up_in hg os 1 p q o ho
  exact h1 y hy) h2
theorem sr_up_hd {g : sr_O → sr_O} (hg : sr_sh g) {os : List sr_O} {p : Nat} {F W : Nat → Int32} (h : sr_hd F W 1 os) : sr_hd F W 1 (sr_up g 1 os p) := fun q x hx => by
  rcases sr_up_ob hg os 1 p q x hx with ⟨rfl, o, ho, rfl⟩ | ⟨-, ho⟩
  · rw [(hg o).1, (hg o).2]; exact h q o ho
  · exact h q x ho
section One
variable {os : List sr_O} {p : Nat} {o : sr_O} (ho : sr_ob 1 os p o)
/-- a content of the object at p changes: the class's cells, the model's -/
theorem sr_gs_hc {os : List sr_O} {p : Nat} {o : sr_O} (ho : sr_ob 1 os p o) {C : Nat → Int32} (h : sr_hc C 1 os) {i : Nat} (hi : i < o.1 + o.2.1) (v : Int32) : sr_hc (upd C (p + 3 + i) v) 1 (sr_up (sr_gs i v) 1 os p) := by
  have hs : sr_sz o = 3 + o.1 + o.2.1 := rfl
  intro q x hx
  rcases sr_up_ob (sr_gs_sh i v) os 1 p q x hx with ⟨rfl, y, hy, rfl⟩ | ⟨hne, hq⟩
  · obtain rfl := sr_ob_eq ho hy
    obtain ⟨h1, h2, h3⟩ := h q o ho
    refine ⟨?_, ?_, fun j hj => ?_⟩
    · rw [pk_un (by omega)]; exact h1
    · rw [pk_un (by omega)]; exact h2
    · show upd C (q + 3 + i) v (q + 3 + j) = upd o.2.2.2 i v j
      by_cases hji : j = i
      · rw [hji, pk_us, pk_us]
      · rw [pk_un (by omega), pk_un hji]; exact h3 j hj
  · refine sr_ce_frame (h q x hq) fun r h1 h2 h3 => pk_un ?_
    rcases sr_ob_sep os 1 q p x o hq ho with h4 | h4 | h4
    · exact absurd h4.1 hne
    · omega
    · omega
theorem sr_gs_hv {os : List sr_O} {p : Nat} {o : sr_O} (ho : sr_ob 1 os p o) {Nm D : Nat → Int32} (h : sr_hv Nm D 1 os) {i : Nat} (hi : i < o.1 + o.2.1) (v : Int32) : sr_hv Nm (upd D (p + 3 + i) v) 1 (sr_up (sr_gs i v) 1 os p) := by
  have hs : sr_sz o = 3 + o.1 + o.2.1 := rfl
  intro q x hx
  rcases sr_up_ob (sr_gs_sh i v) os 1 p q x hx with ⟨rfl, y, hy, rfl⟩ | ⟨hne, hq⟩
  · obtain rfl := sr_ob_eq ho hy
    refine ⟨(h q o ho).1, fun j hj => ?_⟩
    show upd D (q + 3 + i) v (q + 3 + j) = upd o.2.2.2 i v j
    by_cases hji : j = i
    · rw [hji, pk_us, pk_us]
    · rw [pk_un (by omega), pk_un hji]; exact (h q o ho).2 j hj
  · have hsx : sr_sz x = 3 + x.1 + x.2.1 := rfl
    refine ⟨(h q x hq).1, fun j hj => ?_⟩
    rw [pk_un ?_]
    · exact (h q x hq).2 j hj
    · rcases sr_ob_sep os 1 q p x o hq ho with h4 | h4 | h4
      · exact absurd h4.1 hne
      · omega
      · omega
/-- its number changes -/
theorem sr_gn_hc {os : List sr_O} {p : Nat} {o : sr_O} (ho : sr_ob 1 os p o) {C : Nat → Int32} (h : sr_hc C 1 os) (v : Int32) : sr_hc (upd C (p + 1) v) 1 (sr_up (sr_gn v) 1 os p) := by
  have hs : sr_sz o = 3 + o.1 + o.2.1 := rfl
  intro q x hx
  rcases sr_up_ob (sr_gn_sh v) os 1 p q x hx with ⟨rfl, y, hy, rfl⟩ | ⟨hne, hq⟩
  · obtain rfl := sr_ob_eq ho hy
    obtain ⟨h1, h2, h3⟩ := h q o ho
    refine ⟨?_, ?_, fun j hj => ?_⟩
    · rw [pk_un (by omega)]; exact h1
    · exact pk_us
    · rw [pk_un (by omega)]; exact h3 j hj
  · refine sr_ce_frame (h q x hq) fun r h1 h2 h3 => pk_un ?_
    rcases sr_ob_sep os 1 q p x o hq ho with h4 | h4 | h4
    · exact absurd h4.1 hne
    · omega
    · omega
theorem sr_gn_hv {os : List sr_O} {p : Nat} {o : sr_O} (ho : sr_ob 1 os p o) {Nm D : Nat → Int32} (h : sr_hv Nm D 1 os) (v : Int32) : sr_hv (upd Nm p v) D 1 (sr_up (sr_gn v) 1 os p) := by
  intro q x hx
  rcases sr_up_ob (sr_gn_sh v) os 1 p q x hx with ⟨rfl, y, hy, rfl⟩ | ⟨hne, hq⟩
  · obtain rfl := sr_ob_eq ho hy
    exact ⟨pk_us, (h q o ho).2⟩
  · exact ⟨by rw [pk_un hne]; exact (h q x hq).1, (h q x hq).2⟩
theorem sr_gs_va {os : List sr_O} {p : Nat} {o : sr_O} (ho : sr_ob 1 os p o) {rt : Nat → Int32} (h : sr_va os rt) {i : Nat} {v : Int32} (hv : i < o.1 → sr_ad os v) : sr_va (sr_up (sr_gs i v) 1 os p) rt := by
  refine ⟨fun r hr => sr_up_ad (sr_gs_sh i v) (h.1 r hr), fun q x hx j hj => ?_⟩
  rcases sr_up_ob (sr_gs_sh i v) os 1 p q x hx with ⟨rfl, y, hy, rfl⟩ | ⟨hne, hq⟩
  · obtain rfl := sr_ob_eq ho hy
    show sr_ad _ (upd o.2.2.2 i v j)
    by_cases hji : j = i
    · subst hji; rw [pk_us]; exact sr_up_ad (sr_gs_sh j v) (hv hj)
    · rw [pk_un hji]; exact sr_up_ad (sr_gs_sh i v) (h.2 q o ho j hj)
  · exact sr_up_ad (sr_gs_sh i v) (h.2 q x hq j hj)
theorem sr_gn_va {os : List sr_O} {p : Nat} {rt : Nat → Int32} (h : sr_va os rt) {v : Int32} : sr_va (sr_up (sr_gn v) 1 os p) rt := by
  refine ⟨fun r hr => sr_up_ad (sr_gn_sh v) (h.1 r hr), fun q x hx j hj => ?_⟩
  rcases sr_up_ob (sr_gn_sh v) os 1 p q x hx with ⟨rfl, y, hy, rfl⟩ | ⟨hne, hq⟩
  · exact sr_up_ad (sr_gn_sh v) (h.2 q y hy j hj)
  · exact sr_up_ad (sr_gn_sh v) (h.2 q x hq j hj)
end One
/-! an object more -/
def sr_nw (f w : Nat) : sr_O := (f, w, 0, fun _ => 0)
theorem sr_nw_ob {os : List sr_O} {f w p : Nat} {x : sr_O} : sr_ob 1 (os ++ [sr_nw f w]) p x ↔ sr_ob 1 os p x ∨ (p = 1 + sr_tot os ∧ x = sr_nw f w) := by
  rw [sr_ob_app]
  simp [sr_ob]
theorem sr_nw_tot (os : List sr_O) (f w : Nat) : sr_tot (os ++ [sr_nw f w]) = sr_tot os + (3 + f + w) := by
  rw [sr_tot_app]
  rfl
theorem sr_nw_ok {os : List sr_O} (h : sr_ok os) {f w : Nat} (hf : f ≤ 2000) (hw : w ≤ 2000) : sr_ok (os ++ [sr_nw f w]) := by
  intro x hx
  rcases List.mem_append.mp hx with hx | hx
  · exact h x hx
  · rw [List.mem_singleton.mp hx]; exact ⟨hf, hw⟩
theorem sr_nw_ad {os : List sr_O} {f w : Nat} {v : Int32} (h : sr_ad os v) : sr_ad (os ++ [sr_nw f w]) v := by
  rcases h with h | ⟨q, x, hq, he⟩
  · exact Or.inl h
  · exact Or.inr ⟨q, x, sr_nw_ob.mpr (Or.inl hq), he⟩
theorem sr_nw_va {os : List sr_O} {rt : Nat → Int32} (h : sr_va os rt) {f w : Nat} : sr_va (os ++ [sr_nw f w]) rt := by
  refine ⟨fun r hr => sr_nw_ad (h.1 r hr), fun q x hx j hj => ?_⟩
  rcases sr_nw_ob.mp hx with hx | ⟨-, rfl⟩
  · exact sr_nw_ad (h.2 q x hx j hj)
  · exact Or.inl rfl
theorem sr_nw_hc {os : List sr_O} {C C' : Nat → Int32} (h : sr_hc C 1 os) {f w : Nat} (h1 : ∀ q, q < 1 + sr_tot os → C' q = C q) (h2 : C' (1 + sr_tot os) = nI (f * 4096 + w)) (h3 : ∀ q, 1 + sr_tot os < q → q < 1 + sr_tot os + (3 + f + w) → C' q = 0) : sr_hc C' 1 (os ++ [sr_nw f w]) := by
  intro q x hx
  rcases sr_nw_ob.mp hx with hx | ⟨rfl, rfl⟩
  · have hb := sr_ob_bd _ _ _ _ hx
    exact sr_ce_frame (h q x hx) fun r g1 g2 g3 => h1 r (by omega)
  · exact ⟨h2, h3 _ (by omega) (by omega), fun i hi => by
      have hi' : i < f + w := hi
      exact h3 _ (by omega) (by omega)⟩
theorem sr_nw_hd {os : List sr_O} {F W : Nat → Int32} (h : sr_hd F W 1 os) {f w : Nat} : sr_hd (upd F (1 + sr_tot os) (nI (f + 1))) (upd W (1 + sr_tot os) (nI w)) 1 (os ++ [sr_nw f w]) := by
  intro q x hx
  rcases sr_nw_ob.mp hx with hx | ⟨rfl, rfl⟩
  · have hb := sr_ob_bd _ _ _ _ hx
    have h3 := sr_sz3 x
    rw [pk_un (by omega), pk_un (by omega)]
    exact h q x hx
  · exact ⟨pk_us, pk_us⟩
theorem sr_nw_hv {os : List sr_O} {Nm D D' : Nat → Int32} (h : sr_hv Nm D 1 os) {f w : Nat} (h1 : ∀ q, q < 1 + sr_tot os → D' q = D q) (h2 : ∀ q, 1 + sr_tot os ≤ q → q < 1 + sr_tot os + (3 + f + w) → D' q = 0) : sr_hv (upd Nm (1 + sr_tot os) 0) D' 1 (os ++ [sr_nw f w]) := by
  intro q x hx
  rcases sr_nw_ob.mp hx with hx | ⟨rfl, rfl⟩
  · have hb := sr_ob_bd _ _ _ _ hx
    have hs : sr_sz x = 3 + x.1 + x.2.1 := rfl
    rw [pk_un (by omega)]
    exact ⟨(h q x hx).1, fun i hi => by rw [h1 _ (by omega)]; exact (h q x hx).2 i hi⟩
  · exact ⟨pk_us, fun i hi => by
      have hi' : i < f + w := hi
      exact h2 _ (by omega) (by omega)⟩
theorem sr_nw_hz {os : List sr_O} {F : Nat → Int32} (h : sr_hz F os) {f w : Nat} {v : Int32} : sr_hz (upd F (1 + sr_tot os) v) (os ++ [sr_nw f w]) := by
  intro q h1 h2
  have hne : q ≠ 1 + sr_tot os := fun z => h1 (sr_nw f w) (sr_nw_ob.mpr (Or.inr ⟨z, rfl⟩))
  rw [pk_un hne]
  exact h q (fun o ho => h1 o (sr_nw_ob.mpr (Or.inl ho))) h2
