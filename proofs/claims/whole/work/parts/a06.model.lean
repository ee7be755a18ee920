/-! THE MODEL'S ARRAYS, PURE -/
def sr_hd (F W : Nat → Int32) (a : Nat) (os : List sr_O) : Prop := ∀ p o, sr_ob a os p o → F p = nI (o.1 + 1) ∧ W p = nI o.2.1
def sr_hv (Nm D : Nat → Int32) (a : Nat) (os : List sr_O) : Prop := ∀ p o, sr_ob a os p o → Nm p = o.2.2.1 ∧ ∀ i, i < o.1 + o.2.1 → D (p + 3 + i) = o.2.2.2 i
def sr_hz (F : Nat → Int32) (os : List sr_O) : Prop := ∀ q, (∀ o, ¬ sr_ob 1 os q o) → q < 16386 → F q = 0
theorem sr_hd_cons {F W : Nat → Int32} {a : Nat} {o : sr_O} {os : List sr_O} (h : sr_hd F W a (o :: os)) : (F a = nI (o.1 + 1) ∧ W a = nI o.2.1) ∧ sr_hd F W (a + sr_sz o) os :=
  ⟨h a o (Or.inl ⟨rfl, rfl⟩), fun p x hx => h p x (Or.inr hx)⟩
/-- size, as the model counts it -/
theorem sr_ms {F W : Int32} {o : sr_O} (h1 : F = nI (o.1 + 1)) (h2 : W = nI o.2.1) : 3 + F - 1 + W = nI (sr_sz o) := by
  rw [h1, h2, show (3 : Int32) + nI (o.1 + 1) = nI (3 + o.1 + 1) from by rw [show (3 : Int32) = nI 3 from rfl, nI_add]; rfl, nI_pred, nI_add]
  rfl
theorem sr_mf1 {F : Int32} {o : sr_O} (h1 : F = nI (o.1 + 1)) : F - 1 = nI o.1 := by rw [h1, nI_pred]
/-! its marks -/
abbrev sr_P : Type := (Nat → Int32) × Int32
def sr_mk (s : sr_P) (b : Int32) : sr_P := if b ≤ 0 then s else if s.1 b.toNatClampNeg = 0 then (upd s.1 b.toNatClampNeg 1, 1) else s
def sr_mf (D : Nat → Int32) (a : Nat) : Nat → Nat → sr_P → sr_P
  | 0, _, s => s
  | n + 1, f, s => if s.1 a = 0 then s else sr_mf D a n (f + 1) (sr_mk s (D (a + 3 + f)))
def sr_mo (D : Nat → Int32) : Nat → List sr_O → sr_P → sr_P
  | _, [], s => s
  | a, o :: os, s => sr_mo D (a + sr_sz o) os (sr_mf D a o.1 0 s)
def sr_mp (D : Nat → Int32) (os : List sr_O) : Nat → sr_P → sr_P
  | 0, s => s
  | n + 1, s => if s.2 = 0 then s else sr_mp D os n (sr_mo D 1 os (s.1, 0))
def sr_mr (rt : Nat → Int32) : Nat → Nat → (Nat → Int32) → Nat → Int32
  | 0, _, rc => rc
  | n + 1, r, rc => sr_mr rt n (r + 1) (upd rc (rt r).toNatClampNeg 1)
/-- what the array marks -/
def sr_mm (rc : Nat → Int32) : Nat → Bool := fun p => decide (rc p ≠ 0)
theorem sr_mm_t {rc : Nat → Int32} {p : Nat} : sr_mm rc p = true ↔ rc p ≠ 0 := decide_eq_true_iff
theorem sr_kp_mono {m m' : Nat → Bool} : ∀ (os : List sr_O) (a : Nat), (∀ p o, sr_ob a os p o → m p = true → m' p = true) → (sr_kp m a os).length ≤ (sr_kp m' a os).length
  | [], _, _ => Nat.le_refl _
  | o :: os, a, h => by
    have ih := sr_kp_mono os (a + sr_sz o) (fun p x hx => h p x (Or.inr hx))
    simp only [sr_kp]
    by_cases hma : m a = true
    · rw [if_pos hma, if_pos (h a o (Or.inl ⟨rfl, rfl⟩) hma)]
      simp only [List.length_cons]; omega
    · rw [if_neg hma]
      split
      · simp only [List.length_cons]; omega
      · exact ih
theorem sr_kp_lt {m m' : Nat → Bool} {os : List sr_O} {x : Nat} {o : sr_O} (ho : sr_ob 1 os x o) (h1 : m x = false) (h2 : m' x = true) (h : ∀ p o, sr_ob 1 os p o → m p = true → m' p = true) : (sr_kp m 1 os).length + 1 ≤ (sr_kp m' 1 os).length := by
  rw [← sr_kp_add (m := m) (m' := fun p => if p = x then true else m p) h1 (by simp) (fun p hp => by simp [hp]) os 1 o ho]
  refine sr_kp_mono os 1 fun p y hy hp => ?_
  by_cases hpx : p = x
  · rw [hpx]; exact h2
  · simp only [hpx, if_false] at hp; exact h p y hy hp
section Marks
variable {os : List sr_O} {rt : Nat → Int32}
/-- only what is reached is marked -/
def sr_K (os : List sr_O) (rt rc : Nat → Int32) : Prop := ∀ p o, sr_ob 1 os p o → rc p ≠ 0 → sr_R os rt p
def sr_T (os : List sr_O) (rt : Nat → Int32) (s s' : sr_P) : Prop :=
  (∀ p, s.1 p ≠ 0 → s'.1 p ≠ 0) ∧ (s'.2 = 0 → s.2 = 0 ∧ s'.1 = s.1) ∧ (s.2 = 0 → s'.2 ≠ 0 → ∃ x o, sr_ob 1 os x o ∧ s.1 x = 0 ∧ s'.1 x ≠ 0) ∧ (sr_K os rt s.1 → sr_K os rt s'.1)
theorem sr_T.rf {s : sr_P} : sr_T os rt s s := ⟨fun _ h => h, fun h => ⟨h, rfl⟩, fun h h' => absurd h h', fun h => h⟩
theorem sr_T.tr {s s' s'' : sr_P} (h : sr_T os rt s s') (g : sr_T os rt s' s'') : sr_T os rt s s'' := by
  refine ⟨fun p hp => g.1 p (h.1 p hp), fun h0 => ?_, fun h0 h1 => ?_, fun hK => g.2.2.2 (h.2.2.2 hK)⟩
  · obtain ⟨a1, a2⟩ := g.2.1 h0
    obtain ⟨b1, b2⟩ := h.2.1 a1
    exact ⟨b1, a2.trans b2⟩
  · by_cases hs : s'.2 = 0
    · obtain ⟨x, o, h2, h3, h4⟩ := g.2.2.1 hs h1
      rw [(h.2.1 hs).2] at h3
      exact ⟨x, o, h2, h3, h4⟩
    · obtain ⟨x, o, h2, h3, h4⟩ := h.2.2.1 h0 hs
      exact ⟨x, o, h2, h3, g.1 x h4⟩
theorem sr_T_mk (hb : 1 + sr_tot os < 2 ^ 31) {s : sr_P} {b : Int32} (had : sr_ad os b) (hR : sr_K os rt s.1 → ∀ p o, sr_ob 1 os p o → b = nI p → sr_R os rt p) : sr_T os rt s (sr_mk s b) := by
  unfold sr_mk
  rcases had with rfl | ⟨p, o, hp, rfl⟩
  · rw [if_pos (by decide)]; exact sr_T.rf
  · have hbd := sr_ob_bd _ _ _ _ hp
    have h3 := sr_sz3 o
    rw [if_neg (nI_nle (by omega) (by omega)), nI_clamp (by omega)]
    by_cases h0 : s.1 p = 0
    · rw [if_pos h0]
      refine ⟨fun q hq => ?_, fun h => absurd (show (1 : Int32) = 0 from h) (by decide), fun _ _ => ⟨p, o, hp, h0, by show upd s.1 p 1 p ≠ 0; rw [pk_us]; decide⟩, fun hK q x hx hq => ?_⟩
      · by_cases hqp : q = p
        · show upd s.1 p 1 q ≠ 0
          rw [hqp, pk_us]; decide
        · show upd s.1 p 1 q ≠ 0
          rw [pk_un hqp]; exact hq
      · by_cases hqp : q = p
        · rw [hqp]; exact hR hK p o hp rfl
        · have hq' : upd s.1 p 1 q ≠ 0 := hq
          rw [pk_un hqp] at hq'
          exact hK q x hx hq'
    · rw [if_neg h0]; exact sr_T.rf
theorem sr_T_mf (hb : 1 + sr_tot os < 2 ^ 31) (hva : sr_va os rt) {D : Nat → Int32} {a : Nat} {o : sr_O} (ho : sr_ob 1 os a o) (hD : ∀ i, i < o.1 → D (a + 3 + i) = o.2.2.2 i) :
    ∀ (n f : Nat) (s : sr_P), f + n = o.1 → sr_T os rt s (sr_mf D a n f s)
  | 0, _, _, _ => sr_T.rf
  | n + 1, f, s, hf => by
    show sr_T os rt s (if s.1 a = 0 then s else _)
    by_cases h0 : s.1 a = 0
    · rw [if_pos h0]; exact sr_T.rf
    · rw [if_neg h0]
      refine (sr_T_mk hb (b := D (a + 3 + f)) ?_ ?_).tr (sr_T_mf hb hva ho hD n (f + 1) _ (by omega))
      · rw [hD f (by omega)]; exact hva.2 a o ho f (by omega)
      · intro hK p x hp he
        rw [hD f (by omega)] at he
        exact (sr_R_cl os rt).2 a o ho (hK a o ho h0) f (by omega) p x hp he
theorem sr_T_mo (hb : 1 + sr_tot os < 2 ^ 31) (hva : sr_va os rt) {D : Nat → Int32} (hD : ∀ p o, sr_ob 1 os p o → ∀ i, i < o.1 → D (p + 3 + i) = o.2.2.2 i) :
    ∀ (us : List sr_O) (a : Nat) (s : sr_P), (∀ p o, sr_ob a us p o → sr_ob 1 os p o) → sr_T os rt s (sr_mo D a us s)
  | [], _, _, _ => sr_T.rf
  | u :: us, a, s, hs => by
    have h0 := hs a u (Or.inl ⟨rfl, rfl⟩)
    exact (sr_T_mf hb hva h0 (hD a u h0) u.1 0 s (by omega)).tr (sr_T_mo hb hva hD us (a + sr_sz u) _ (fun p o h => hs p o (Or.inr h)))
/-- a pass that marks nothing more: what is marked is closed -/
theorem sr_mf_cl (hb : 1 + sr_tot os < 2 ^ 31) (hva : sr_va os rt) {D : Nat → Int32} {a : Nat} {o : sr_O} (ho : sr_ob 1 os a o) (hD : ∀ i, i < o.1 → D (a + 3 + i) = o.2.2.2 i) :
    ∀ (n f : Nat) (s : sr_P), f + n = o.1 → (sr_mf D a n f s).2 = 0 → s.1 a ≠ 0 → ∀ j, f ≤ j → j < o.1 → ∀ p x, sr_ob 1 os p x → o.2.2.2 j = nI p → s.1 p ≠ 0
  | 0, f, s, hf, _, _, j, h1, h2 => by omega
  | n + 1, f, s, hf, h0, ha, j, h1, h2 => by
    intro p x hp he
    have e : sr_mf D a (n + 1) f s = sr_mf D a n (f + 1) (sr_mk s (D (a + 3 + f))) := if_neg ha
    rw [e] at h0
    have hT2 := sr_T_mf (rt := rt) hb hva ho hD n (f + 1) (sr_mk s (D (a + 3 + f))) (by omega)
    have hm0 := (hT2.2.1 h0).1
    have hbd := sr_ob_bd _ _ _ _ hp
    have h3 := sr_sz3 x
    have hms : sr_mk s (D (a + 3 + f)) = s ∧ (j = f → s.1 p ≠ 0) := by
      rw [hD f (by omega)] at hm0 ⊢
      rcases hva.2 a o ho f (by omega) with hz | ⟨p', o', hp', he'⟩
      · refine ⟨by rw [hz]; exact if_pos (by decide), fun hj => ?_⟩
        subst hj
        exact absurd (he.symm.trans hz) (sr_ne0 (by omega) (by omega))
      · have hbd' := sr_ob_bd _ _ _ _ hp'
        have h3' := sr_sz3 o'
        rw [he'] at hm0 ⊢
        unfold sr_mk at hm0 ⊢
        rw [if_neg (nI_nle (by omega) (by omega)), nI_clamp (by omega)] at hm0 ⊢
        by_cases hz : s.1 p' = 0
        · rw [if_pos hz] at hm0
          exact absurd (show (1 : Int32) = 0 from hm0) (by decide)
        · rw [if_neg hz]
          refine ⟨rfl, fun hj => ?_⟩
          subst hj
          have : p = p' := (nI_eq (by omega) (by omega)).mp (he.symm.trans he')
          rw [this]; exact hz
    by_cases hj : j = f
    · exact hms.2 hj
    · rw [hms.1] at h0
      exact sr_mf_cl hb hva ho hD n (f + 1) s (by omega) h0 ha j (by omega) h2 p x hp he
theorem sr_mo_cl (hb : 1 + sr_tot os < 2 ^ 31) (hva : sr_va os rt) {D : Nat → Int32} (hD : ∀ p o, sr_ob 1 os p o → ∀ i, i < o.1 → D (p + 3 + i) = o.2.2.2 i) :
    ∀ (us : List sr_O) (a : Nat) (s : sr_P), (∀ p o, sr_ob a us p o → sr_ob 1 os p o) → (sr_mo D a us s).2 = 0 → ∀ p o, sr_ob a us p o → s.1 p ≠ 0 → ∀ i, i < o.1 → ∀ q x, sr_ob 1 os q x → o.2.2.2 i = nI q → s.1 q ≠ 0
  | [], _, _, _, _, p, o, h => h.elim
  | u :: us, a, s, hs, h0, p, o, hp => by
    have hu := hs a u (Or.inl ⟨rfl, rfl⟩)
    have h0' : (sr_mo D (a + sr_sz u) us (sr_mf D a u.1 0 s)).2 = 0 := h0
    have hT := sr_T_mo (rt := rt) hb hva hD us (a + sr_sz u) (sr_mf D a u.1 0 s) (fun p o h => hs p o (Or.inr h))
    have hm := (hT.2.1 h0').1
    have he := ((sr_T_mf (rt := rt) hb hva hu (hD a u hu) u.1 0 s (by omega)).2.1 hm).2
    intro h1 i hi q x hq hv
    rcases hp with ⟨rfl, rfl⟩ | hp
    · exact sr_mf_cl hb hva hu (hD p o hu) o.1 0 s (by omega) hm h1 i (Nat.zero_le _) hi q x hq hv
    · have := sr_mo_cl hb hva hD us (a + sr_sz u) (sr_mf D a u.1 0 s) (fun p o h => hs p o (Or.inr h)) h0' p o hp (by rw [he]; exact h1) i hi q x hq hv
      rw [he] at this
      exact this
theorem sr_mp_spec (hb : 1 + sr_tot os < 2 ^ 31) (hva : sr_va os rt) {D : Nat → Int32} (hD : ∀ p o, sr_ob 1 os p o → ∀ i, i < o.1 → D (p + 3 + i) = o.2.2.2 i) :
    ∀ (n : Nat) (s : sr_P), s.2 ≠ 0 → os.length < (sr_kp (sr_mm s.1) 1 os).length + n → sr_K os rt s.1 → (∀ r, r < 16 → ∀ p o, sr_ob 1 os p o → rt r = nI p → s.1 p ≠ 0) →
      ∀ p o, sr_ob 1 os p o → ((sr_mp D os n s).1 p ≠ 0 ↔ sr_R os rt p)
  | 0, s, _, hn, _, _ => by
    have := sr_kp_len (m := sr_mm s.1) os 1
    omega
  | n + 1, s, h0, hn, hK, hr => by
    have hT := sr_T_mo (rt := rt) hb hva hD os 1 (s.1, 0) (fun _ _ h => h)
    have e : sr_mp D os (n + 1) s = sr_mp D os n (sr_mo D 1 os (s.1, 0)) := if_neg h0
    rw [e]
    by_cases hz : (sr_mo D 1 os (s.1, 0)).2 = 0
    · have e2 : sr_mp D os n (sr_mo D 1 os (s.1, 0)) = sr_mo D 1 os (s.1, 0) := by
        cases n with
        | zero => rfl
        | succ n => exact if_pos hz
      rw [e2, (hT.2.1 hz).2]
      have hcl : sr_cl os rt (fun p => s.1 p ≠ 0) := ⟨hr, fun p o hp hS i hi q x hq he => sr_mo_cl hb hva hD os 1 (s.1, 0) (fun _ _ h => h) hz p o hp hS i hi q x hq he⟩
      exact fun p o hp => ⟨hK p o hp, fun h => h _ hcl⟩
    · obtain ⟨x, o, hx, h1, h2⟩ := hT.2.2.1 rfl hz
      have hlt := sr_kp_lt (m := sr_mm s.1) (m' := sr_mm (sr_mo D 1 os (s.1, 0)).1) hx (by simp only [sr_mm]; exact decide_eq_false (fun z => z h1)) (sr_mm_t.mpr h2) (fun p y _ hp => sr_mm_t.mpr (hT.1 p (sr_mm_t.mp hp)))
      exact sr_mp_spec hb hva hD n (sr_mo D 1 os (s.1, 0)) hz (by omega) (hT.2.2.2 hK) (fun r hr' p o hp he => hT.1 p (hr r hr' p o hp he))
/-- the roots' marks -/
theorem sr_mr_spec : ∀ (n r : Nat) (rc : Nat → Int32), r + n = 16 → ∀ p, (sr_mr rt n r rc p ≠ 0 ↔ rc p ≠ 0 ∨ ∃ j, r ≤ j ∧ j < 16 ∧ (rt j).toNatClampNeg = p)
  | 0, r, rc, h, p => by
    show rc p ≠ 0 ↔ _
    constructor
    · exact Or.inl
    · rintro (h1 | ⟨j, h1, h2, -⟩)
      · exact h1
      · omega
  | n + 1, r, rc, h, p => by
    show sr_mr rt n (r + 1) (upd rc (rt r).toNatClampNeg 1) p ≠ 0 ↔ _
    rw [sr_mr_spec n (r + 1) _ (by omega) p]
    by_cases hp : p = (rt r).toNatClampNeg
    · constructor
      · intro _; exact Or.inr ⟨r, Nat.le_refl _, by omega, hp.symm⟩
      · intro _; refine Or.inl ?_; rw [hp, pk_us]; decide
    · rw [pk_un hp]
      constructor
      · rintro (h1 | ⟨j, h1, h2, h3⟩)
        · exact Or.inl h1
        · exact Or.inr ⟨j, by omega, h2, h3⟩
      · rintro (h1 | ⟨j, h1, h2, h3⟩)
        · exact Or.inl h1
        · refine Or.inr ⟨j, ?_, h2, h3⟩
          have : j ≠ r := fun z => hp (by rw [← z]; exact h3.symm)
          omega
/-- reach, whole: from marks that are all off -/
theorem sr_reach_spec (hb : 1 + sr_tot os < 2 ^ 31) (hn : os.length < 6000) (hva : sr_va os rt) {D rc : Nat → Int32} (hD : ∀ p o, sr_ob 1 os p o → ∀ i, i < o.1 → D (p + 3 + i) = o.2.2.2 i) (h0 : ∀ p, p ≤ 1 + sr_tot os → rc p = 0) :
    ∀ p o, sr_ob 1 os p o → ((sr_mp D os 6000 (upd (sr_mr rt 16 0 rc) 0 0, 1)).1 p ≠ 0 ↔ sr_R os rt p) := by
  have hmr : ∀ p o, sr_ob 1 os p o → (upd (sr_mr rt 16 0 rc) 0 0 p ≠ 0 ↔ ∃ j, j < 16 ∧ rt j = nI p) := fun p o hp => by
    have hbd := sr_ob_bd _ _ _ _ hp
    have h3 := sr_sz3 o
    rw [pk_un (by omega), sr_mr_spec 16 0 rc rfl p]
    constructor
    · rintro (h | ⟨j, -, h1, h2⟩)
      · exact absurd (h0 p (by omega)) h
      · refine ⟨j, h1, ?_⟩
        rcases hva.1 j h1 with hz | ⟨q, x, hq, he⟩
        · rw [hz] at h2
          have : (0 : Int32).toNatClampNeg = 0 := by decide
          omega
        · have hbq := sr_ob_bd _ _ _ _ hq
          have h4 := sr_sz3 x
          rw [he, nI_clamp (by omega)] at h2
          rw [he, h2]
    · rintro ⟨j, h1, h2⟩
      exact Or.inr ⟨j, Nat.zero_le _, h1, by rw [h2, nI_clamp (by omega)]⟩
  refine sr_mp_spec hb hva hD 6000 _ (show (1 : Int32) ≠ 0 from by decide) (by omega) (fun p o hp hm => ?_) (fun r hr p o hp he => (hmr p o hp).mpr ⟨r, hr, he⟩)
  obtain ⟨j, h1, h2⟩ := (hmr p o hp).mp hm
  exact (sr_R_cl os rt).1 j h1 p o hp h2
end Marks
