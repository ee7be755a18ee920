/-! THE MODEL'S SLIDE, PURE -/
def sr_tg (rc : Nat → Int32) : Nat → Nat → List sr_O → (Nat → Int32) → Nat → Int32
  | _, _, [], T => T
  | a, b, o :: os, T => sr_tg rc (a + sr_sz o) (if sr_mm rc a = true then b + sr_sz o else b) os (upd T a (nI b))
theorem sr_tg_eq {rc : Nat → Int32} : ∀ (os : List sr_O) (a b : Nat) (T : Nat → Int32), a + sr_tot os < 2 ^ 31 → (∀ p o, sr_ob a os p o → sr_tg rc a b os T p = sr_pl (sr_mm rc) a b os (nI p)) ∧ ∀ q, q < a → sr_tg rc a b os T q = T q
  | [], _, _, _, _ => ⟨fun _ _ h => h.elim, fun _ _ => rfl⟩
  | o :: os, a, b, T, h => by
    have h3 := sr_sz3 o
    simp only [sr_tot] at h
    have ih := sr_tg_eq (rc := rc) os (a + sr_sz o) (if sr_mm rc a = true then b + sr_sz o else b) (upd T a (nI b)) (by omega)
    constructor
    · rintro p x (⟨rfl, rfl⟩ | hp)
      · show sr_tg rc _ _ os _ p = _
        rw [ih.2 p (by omega), pk_us]
        exact (if_pos rfl).symm
      · have hbd := sr_ob_bd _ _ _ _ hp
        have h4 := sr_sz3 x
        show sr_tg rc _ _ os _ p = (if nI p = nI a then nI b else _)
        have hne : ¬ nI p = nI a := fun z => by have := (nI_eq (by omega) (by omega)).mp z; omega
        rw [ih.1 p x hp, if_neg hne]
    · intro q hq
      show sr_tg rc _ _ os _ q = _
      rw [ih.2 q (by omega), pk_un (by omega)]
theorem sr_pl_congr {m m' : Nat → Bool} : ∀ (os : List sr_O) (a b : Nat), (∀ p o, sr_ob a os p o → m p = m' p) → ∀ v, sr_pl m a b os v = sr_pl m' a b os v
  | [], _, _, _, _ => rfl
  | o :: os, a, b, h, v => by
    have e := h a o (Or.inl ⟨rfl, rfl⟩)
    simp only [sr_pl, e]
    rw [sr_pl_congr os _ _ (fun p x hx => h p x (Or.inr hx)) v]
def sr_df (T : Nat → Int32) (a : Nat) : Nat → Nat → (Nat → Int32) → Nat → Int32
  | 0, _, D => D
  | n + 1, f, D => sr_df T a n (f + 1) (upd D (a + 3 + f) (T (D (a + 3 + f)).toNatClampNeg))
theorem sr_df_eq {T : Nat → Int32} {a : Nat} : ∀ (n f : Nat) (D : Nat → Int32) (q : Nat), sr_df T a n f D q = if a + 3 + f ≤ q ∧ q < a + 3 + f + n then T (D q).toNatClampNeg else D q
  | 0, f, D, q => by rw [if_neg (by omega)]; rfl
  | n + 1, f, D, q => by
    show sr_df T a n (f + 1) _ q = _
    rw [sr_df_eq n (f + 1) _ q]
    by_cases h : q = a + 3 + f
    · rw [if_neg (by omega), if_pos (by omega), h, pk_us]
    · rw [pk_un h]
      by_cases h2 : a + 3 + (f + 1) ≤ q ∧ q < a + 3 + (f + 1) + n
      · rw [if_pos h2, if_pos (by omega)]
      · rw [if_neg h2, if_neg (by omega)]
def sr_do (rc T : Nat → Int32) : Nat → List sr_O → (Nat → Int32) → Nat → Int32
  | _, [], D => D
  | a, o :: os, D => sr_do rc T (a + sr_sz o) os (if sr_mm rc a = true then sr_df T a o.1 0 D else D)
theorem sr_do_eq {rc T Nm : Nat → Int32} {f : Int32 → Int32} : ∀ (os : List sr_O) (a : Nat) (D : Nat → Int32), sr_hv Nm D a os → (∀ p o, sr_ob a os p o → sr_mm rc p = true → ∀ i, i < o.1 → T (o.2.2.2 i).toNatClampNeg = f (o.2.2.2 i)) →
    sr_hv Nm (sr_do rc T a os D) a (sr_rl (sr_mm rc) f a os) ∧ ∀ q, q < a ∨ a + sr_tot os ≤ q → sr_do rc T a os D q = D q
  | [], _, _, _, _ => ⟨fun _ _ h => h.elim, fun _ _ => rfl⟩
  | o :: os, a, D, hv, hT => by
    have hs : sr_sz o = 3 + o.1 + o.2.1 := rfl
    have h0 : sr_ob a (o :: os) a o := Or.inl ⟨rfl, rfl⟩
    have hh := hv a o h0
    have key : ∃ D1 : Nat → Int32, (if sr_mm rc a = true then sr_df T a o.1 0 D else D) = D1 ∧ (∀ i, i < o.1 + o.2.1 → D1 (a + 3 + i) = (if sr_mm rc a = true then sr_ro f o else o).2.2.2 i) ∧ ∀ q, q < a + 3 ∨ a + sr_sz o ≤ q → D1 q = D q := by
      cases hma : sr_mm rc a with
      | false =>
        rw [if_neg (by decide), if_neg (by decide)]
        exact ⟨D, rfl, hh.2, fun _ _ => rfl⟩
      | true =>
        rw [if_pos rfl, if_pos rfl]
        refine ⟨_, rfl, fun i hi => ?_, fun q hq => ?_⟩
        · rw [sr_df_eq]
          show _ = if i < o.1 then f (o.2.2.2 i) else o.2.2.2 i
          by_cases hi2 : i < o.1
          · rw [if_pos (by omega), if_pos hi2, hh.2 i hi, hT a o h0 hma i hi2]
          · rw [if_neg (by omega), if_neg hi2, hh.2 i hi]
        · rw [sr_df_eq, if_neg (by omega)]
    obtain ⟨D1, e1, e2, e3⟩ := key
    have far : ∀ p y, sr_ob (a + sr_sz o) os p y → a + sr_sz o ≤ p := fun p y hy => (sr_ob_bd _ _ _ _ hy).1
    have ih := sr_do_eq (rc := rc) (T := T) (Nm := Nm) (f := f) os (a + sr_sz o) D1
      (fun p y hy => ⟨(hv p y (Or.inr hy)).1, fun i hi => by rw [e3 _ (by have := far p y hy; omega)]; exact (hv p y (Or.inr hy)).2 i hi⟩) (fun p y hy => hT p y (Or.inr hy))
    show sr_hv Nm (sr_do rc T (a + sr_sz o) os (if sr_mm rc a = true then sr_df T a o.1 0 D else D)) a (_ :: _) ∧ _
    rw [show sr_do rc T a (o :: os) D = sr_do rc T (a + sr_sz o) os (if sr_mm rc a = true then sr_df T a o.1 0 D else D) from rfl, e1]
    constructor
    · rintro p x (⟨rfl, rfl⟩ | hp)
      · have hnum : (if sr_mm rc p = true then sr_ro f o else o).2.2.1 = o.2.2.1 := by split <;> rfl
        have hn1 : (if sr_mm rc p = true then sr_ro f o else o).1 = o.1 := by split <;> rfl
        have hn2 : (if sr_mm rc p = true then sr_ro f o else o).2.1 = o.2.1 := by split <;> rfl
        refine ⟨by rw [hnum]; exact hh.1, fun i hi => ?_⟩
        rw [hn1, hn2] at hi
        rw [ih.2 _ (Or.inl (by omega))]
        exact e2 i hi
      · rw [sr_rl_sz] at hp
        exact ih.1 p x hp
    · intro q hq
      simp only [sr_tot] at hq
      rw [ih.2 q (by omega)]
      exact e3 q (by omega)
abbrev sr_B : Type := (Nat → Int32) × (Nat → Int32) × (Nat → Int32) × (Nat → Int32)
def sr_cp (a b : Nat) : Nat → Nat → (Nat → Int32) → Nat → Int32
  | 0, _, D => D
  | n + 1, k, D => sr_cp a b n (k + 1) (upd D (b + k) (D (a + k)))
theorem sr_cp_eq {a b : Nat} (hba : b ≤ a) : ∀ (n k : Nat) (D : Nat → Int32) (q : Nat), sr_cp a b n k D q = if b + k ≤ q ∧ q < b + k + n then D (a + (q - b)) else D q
  | 0, k, D, q => by rw [if_neg (by omega)]; rfl
  | n + 1, k, D, q => by
    show sr_cp a b n (k + 1) _ q = _
    rw [sr_cp_eq hba n (k + 1) _ q]
    by_cases h2 : b + (k + 1) ≤ q ∧ q < b + (k + 1) + n
    · rw [if_pos h2, if_pos (by omega), pk_un (by omega)]
    · rw [if_neg h2]
      by_cases h : q = b + k
      · rw [if_pos (by omega), h, pk_us]
        congr 1
        omega
      · rw [if_neg (by omega), pk_un h]
def sr_bg (b : Nat) (s : sr_B) (a k : Nat) : sr_B := (upd (upd s.1 a 0) b (s.1 a), upd (upd s.2.1 a 0) b (s.2.1 a), upd (upd s.2.2.1 a 0) b (s.2.2.1 a), sr_cp a b k 0 s.2.2.2)
def sr_bl (rc T : Nat → Int32) : Nat → List sr_O → sr_B → sr_B
  | _, [], s => s
  | a, o :: os, s => sr_bl rc T (a + sr_sz o) os (if sr_mm rc a = true then sr_bg (T a).toNatClampNeg s a (sr_sz o) else (upd s.1 a 0, upd s.2.1 a 0, upd s.2.2.1 a 0, s.2.2.2))
/-- one object's turn leaves the headers behind it as they were -/
theorem sr_bl_hd {rc : Nat → Int32} {F W : Nat → Int32} {a b : Nat} {o : sr_O} {os : List sr_O} (hba : b ≤ a) (h : sr_hd F W a (o :: os)) {F' W' : Nat → Int32}
    (hF : F' = upd (upd F a 0) b (F a) ∨ F' = upd F a 0) (hW : W' = upd (upd W a 0) b (W a) ∨ W' = upd W a 0) : sr_hd F' W' (a + sr_sz o) os := by
  intro p y hy
  have h3 := sr_sz3 o
  have hp := (sr_ob_bd _ _ _ _ hy).1
  have := h p y (Or.inr hy)
  constructor
  · rcases hF with rfl | rfl
    · rw [pk_un (by omega), pk_un (by omega)]; exact this.1
    · rw [pk_un (by omega)]; exact this.1
  · rcases hW with rfl | rfl
    · rw [pk_un (by omega), pk_un (by omega)]; exact this.2
    · rw [pk_un (by omega)]; exact this.2
theorem sr_upup {F : Nat → Int32} {a b q : Nat} {v : Int32} : upd (upd F a 0) b v q = if q = b then v else if q = a then 0 else F q := rfl
theorem sr_bl_eq {rc T : Nat → Int32} : ∀ (os : List sr_O) (a b : Nat) (s : sr_B), sr_hd s.1 s.2.1 a os → sr_hv s.2.2.1 s.2.2.2 a os → 1 ≤ b → b ≤ a → a + sr_tot os < 2 ^ 31 →
    (∀ p o, sr_ob a os p o → T p = sr_pl (sr_mm rc) a b os (nI p)) → (∀ q, b ≤ q → q < 16386 → (∀ o, ¬ sr_ob a os q o) → s.1 q = 0) →
    sr_hd (sr_bl rc T a os s).1 (sr_bl rc T a os s).2.1 b (sr_kp (sr_mm rc) a os) ∧ sr_hv (sr_bl rc T a os s).2.2.1 (sr_bl rc T a os s).2.2.2 b (sr_kp (sr_mm rc) a os) ∧
    (∀ q, b ≤ q → q < 16386 → (∀ o, ¬ sr_ob b (sr_kp (sr_mm rc) a os) q o) → (sr_bl rc T a os s).1 q = 0) ∧
    ∀ q, q < b → (sr_bl rc T a os s).1 q = s.1 q ∧ (sr_bl rc T a os s).2.1 q = s.2.1 q ∧ (sr_bl rc T a os s).2.2.1 q = s.2.2.1 q ∧ (sr_bl rc T a os s).2.2.2 q = s.2.2.2 q
  | [], a, b, s, _, _, _, _, _, _, hz => ⟨fun _ _ h => h.elim, fun _ _ h => h.elim, fun q h1 h2 _ => hz q h1 h2 (fun _ h => h), fun _ _ => ⟨rfl, rfl, rfl, rfl⟩⟩
  | o :: os, a, b, s, hd, hv, h1, hba, hN, hT, hz => by
    obtain ⟨F, W, Nm, D⟩ := s
    dsimp only at hd hv hz
    have h3 := sr_sz3 o
    have hs : sr_sz o = 3 + o.1 + o.2.1 := rfl
    simp only [sr_tot] at hN
    have h0 : sr_ob a (o :: os) a o := Or.inl ⟨rfl, rfl⟩
    have far : ∀ p y, sr_ob (a + sr_sz o) os p y → a + sr_sz o ≤ p ∧ p < 2 ^ 31 := fun p y hy => by
      have hb := sr_ob_bd _ _ _ _ hy
      have := sr_sz3 y
      omega
    have hpl : ∀ p y, sr_ob (a + sr_sz o) os p y → sr_pl (sr_mm rc) a b (o :: os) (nI p) = sr_pl (sr_mm rc) (a + sr_sz o) (if sr_mm rc a = true then b + sr_sz o else b) os (nI p) := fun p y hy => by
      have := far p y hy
      show (if nI p = nI a then nI b else _) = _
      rw [if_neg (fun z => by have := (nI_eq (by omega) (by omega)).mp z; omega)]
    have hTa : (T a).toNatClampNeg = b := by
      rw [hT a o h0, show sr_pl (sr_mm rc) a b (o :: os) (nI a) = nI b from if_pos rfl, nI_clamp (by omega)]
    have hha := hd a o h0
    have hva := hv a o h0
    rw [show sr_bl rc T a (o :: os) (F, W, Nm, D) = sr_bl rc T (a + sr_sz o) os (if sr_mm rc a = true then sr_bg (T a).toNatClampNeg (F, W, Nm, D) a (sr_sz o) else (upd F a 0, upd W a 0, upd Nm a 0, D)) from rfl, hTa]
    cases hma : sr_mm rc a with
    | false =>
      rw [if_neg (by decide)]
      simp only [sr_kp, hma]
      have ih := sr_bl_eq (rc := rc) (T := T) os (a + sr_sz o) b (upd F a 0, upd W a 0, upd Nm a 0, D)
        (fun p y hy => by have := far p y hy; dsimp only; rw [pk_un (by omega), pk_un (by omega)]; exact hd p y (Or.inr hy))
        (fun p y hy => by have := far p y hy; dsimp only; rw [pk_un (by omega)]; exact hv p y (Or.inr hy)) h1 (by omega) (by omega)
        (fun p y hy => by rw [hT p y (Or.inr hy), hpl p y hy, hma]; rfl)
        (fun q g1 g2 g3 => by
          dsimp only
          by_cases hqa : q = a
          · rw [hqa]; exact pk_us
          · rw [pk_un hqa]
            refine hz q g1 g2 fun y hy => ?_
            rcases hy with ⟨h, -⟩ | hy
            · exact hqa h
            · exact g3 y hy)
      refine ⟨ih.1, ih.2.1, ih.2.2.1, fun q hq => ?_⟩
      obtain ⟨i1, i2, i3, i4⟩ := ih.2.2.2 q hq
      rw [i1, i2, i3, i4]
      dsimp only
      rw [pk_un (by omega), pk_un (by omega), pk_un (by omega)]
      exact ⟨rfl, rfl, rfl, rfl⟩
    | true =>
      rw [if_pos rfl]
      simp only [sr_kp, hma, if_true]
      have ih := sr_bl_eq (rc := rc) (T := T) os (a + sr_sz o) (b + sr_sz o) (sr_bg b (F, W, Nm, D) a (sr_sz o))
        (fun p y hy => by
          have := far p y hy
          show upd (upd F a 0) b (F a) p = _ ∧ upd (upd W a 0) b (W a) p = _
          rw [pk_un (by omega), pk_un (by omega), pk_un (by omega), pk_un (by omega)]; exact hd p y (Or.inr hy))
        (fun p y hy => by
          have := far p y hy
          show upd (upd Nm a 0) b (Nm a) p = _ ∧ ∀ i, _ → sr_cp a b (sr_sz o) 0 D (p + 3 + i) = _
          rw [pk_un (by omega), pk_un (by omega)]
          refine ⟨(hv p y (Or.inr hy)).1, fun i hi => ?_⟩
          rw [sr_cp_eq hba, if_neg (by omega)]
          exact (hv p y (Or.inr hy)).2 i hi) (by omega) (by omega) (by omega)
        (fun p y hy => by rw [hT p y (Or.inr hy), hpl p y hy, hma]; rfl)
        (fun q g1 g2 g3 => by
          show upd (upd F a 0) b (F a) q = 0
          rw [pk_un (by omega)]
          by_cases hqa : q = a
          · rw [hqa]; exact pk_us
          · rw [pk_un hqa]
            refine hz q (by omega) g2 fun y hy => ?_
            rcases hy with ⟨h, -⟩ | hy
            · exact hqa h
            · exact g3 y hy)
      have hfr := ih.2.2.2
      have eF : ∀ q, q < b + sr_sz o → (sr_bl rc T (a + sr_sz o) os (sr_bg b (F, W, Nm, D) a (sr_sz o))).1 q = if q = b then F a else if q = a then 0 else F q := fun q hq => (hfr q hq).1
      have eW : ∀ q, q < b + sr_sz o → (sr_bl rc T (a + sr_sz o) os (sr_bg b (F, W, Nm, D) a (sr_sz o))).2.1 q = if q = b then W a else if q = a then 0 else W q := fun q hq => (hfr q hq).2.1
      have eN : ∀ q, q < b + sr_sz o → (sr_bl rc T (a + sr_sz o) os (sr_bg b (F, W, Nm, D) a (sr_sz o))).2.2.1 q = if q = b then Nm a else if q = a then 0 else Nm q := fun q hq => (hfr q hq).2.2.1
      have eD : ∀ q, q < b + sr_sz o → (sr_bl rc T (a + sr_sz o) os (sr_bg b (F, W, Nm, D) a (sr_sz o))).2.2.2 q = if b ≤ q then D (a + (q - b)) else D q := fun q hq => by
        rw [(hfr q hq).2.2.2]
        show sr_cp a b (sr_sz o) 0 D q = _
        rw [sr_cp_eq hba]
        by_cases hbq : b ≤ q
        · rw [if_pos (by omega), if_pos hbq]
        · rw [if_neg (by omega), if_neg hbq]
      refine ⟨?_, ?_, ?_, fun q hq => ?_⟩
      · rintro p y (⟨rfl, rfl⟩ | hy)
        · rw [eF p (by omega), eW p (by omega), if_pos rfl, if_pos rfl]; exact hha
        · exact ih.1 p y hy
      · rintro p y (⟨rfl, rfl⟩ | hy)
        · rw [eN p (by omega), if_pos rfl]
          refine ⟨hva.1, fun i hi => ?_⟩
          rw [eD _ (by omega), if_pos (by omega), show a + (p + 3 + i - p) = a + 3 + i from by omega]
          exact hva.2 i hi
        · exact ih.2.1 p y hy
      · intro q g1 g2 g3
        by_cases hqb : q < b + sr_sz o
        · have hqne : q ≠ b := fun h => g3 o (Or.inl ⟨h, rfl⟩)
          rw [eF q hqb, if_neg hqne]
          by_cases hqa : q = a
          · rw [if_pos hqa]
          · rw [if_neg hqa]
            refine hz q (by omega) g2 fun y hy => ?_
            rcases hy with ⟨h, -⟩ | hy
            · exact hqa h
            · have := far q y hy; omega
        · exact ih.2.2.1 q (by omega) g2 (fun y hy => g3 y (Or.inr hy))
      · rw [eF q (by omega), eW q (by omega), eN q (by omega), eD q (by omega), if_neg (by omega), if_neg (by omega), if_neg (by omega), if_neg (by omega), if_neg (by omega), if_neg (by omega), if_neg (by omega)]
        exact ⟨rfl, rfl, rfl, rfl⟩
/-- the model's slide, whole -/
theorem sr_sM_spec {os : List sr_O} {rt F W Nm D rc T0 : Nat → Int32} (hb : 1 + sr_tot os < 2 ^ 31) (hva : sr_va os rt) (hd : sr_hd F W 1 os) (hv : sr_hv Nm D 1 os) (hz : sr_hz F os)
    (hm : ∀ p o, sr_ob 1 os p o → (rc p ≠ 0 ↔ sr_R os rt p)) :
    (∀ r, r < 16 → upd (sr_tg rc 1 1 os T0) 0 0 (rt r).toNatClampNeg = sr_f os rt (rt r)) ∧
    sr_tot (sr_kp (sr_mm rc) 1 os) = sr_tot (sr_so os rt) ∧ (sr_kp (sr_mm rc) 1 os).length = (sr_so os rt).length ∧
    sr_hd (sr_bl rc (upd (sr_tg rc 1 1 os T0) 0 0) 1 os (F, W, Nm, sr_do rc (upd (sr_tg rc 1 1 os T0) 0 0) 1 os D)).1 (sr_bl rc (upd (sr_tg rc 1 1 os T0) 0 0) 1 os (F, W, Nm, sr_do rc (upd (sr_tg rc 1 1 os T0) 0 0) 1 os D)).2.1 1 (sr_so os rt) ∧
    sr_hv (sr_bl rc (upd (sr_tg rc 1 1 os T0) 0 0) 1 os (F, W, Nm, sr_do rc (upd (sr_tg rc 1 1 os T0) 0 0) 1 os D)).2.2.1 (sr_bl rc (upd (sr_tg rc 1 1 os T0) 0 0) 1 os (F, W, Nm, sr_do rc (upd (sr_tg rc 1 1 os T0) 0 0) 1 os D)).2.2.2 1 (sr_so os rt) ∧
    sr_hz (sr_bl rc (upd (sr_tg rc 1 1 os T0) 0 0) 1 os (F, W, Nm, sr_do rc (upd (sr_tg rc 1 1 os T0) 0 0) 1 os D)).1 (sr_so os rt) := by
  have hmm : ∀ p o, sr_ob 1 os p o → sr_mm rc p = sr_m os rt p := fun p o hp => by
    cases h : sr_m os rt p with
    | true => exact sr_mm_t.mpr ((hm p o hp).mpr (sr_b_iff.mp h))
    | false =>
      cases h2 : sr_mm rc p with
      | false => rfl
      | true => exact absurd ((hm p o hp).mp (sr_mm_t.mp h2)) (sr_b_not.mp h)
  have hkp : sr_kp (sr_mm rc) 1 os = sr_kp (sr_m os rt) 1 os := sr_kp_congr os 1 hmm
  have hplE : ∀ v, sr_pl (sr_mm rc) 1 1 os v = sr_f os rt v := sr_pl_congr os 1 1 hmm
  obtain ⟨t1, t2⟩ := sr_tg_eq (rc := rc) os 1 1 T0 hb
  have hTp : ∀ p o, sr_ob 1 os p o → upd (sr_tg rc 1 1 os T0) 0 0 p = sr_pl (sr_mm rc) 1 1 os (nI p) := fun p o hp => by
    have := (sr_ob_bd _ _ _ _ hp).1
    rw [pk_un (by omega)]
    exact t1 p o hp
  generalize hTe : upd (sr_tg rc 1 1 os T0) 0 0 = T at hTp
  have hT0 : T 0 = 0 := by rw [← hTe]; exact pk_us
  have hTv : ∀ v, sr_ad os v → T v.toNatClampNeg = sr_f os rt v := by
    rintro v (rfl | ⟨p, o, hp, rfl⟩)
    · rw [show (0 : Int32).toNatClampNeg = 0 from by decide, hT0, sr_f_0 hb]
    · have hbd := sr_ob_bd _ _ _ _ hp
      have h3 := sr_sz3 o
      rw [nI_clamp (by omega), hTp p o hp, hplE]
  obtain ⟨d1, d2⟩ := sr_do_eq (rc := rc) (T := T) (Nm := Nm) (f := sr_f os rt) os 1 D hv (fun p o hp _ i hi => hTv _ (hva.2 p o hp i hi))
  have hrl : ∀ p x, sr_ob 1 (sr_rl (sr_mm rc) (sr_f os rt) 1 os) p x → ∃ o, sr_ob 1 os p o ∧ x.1 = o.1 ∧ x.2.1 = o.2.1 := fun p x hx => by
    obtain ⟨o, ho, e⟩ := sr_rl_ob _ _ os 1 p x hx
    refine ⟨o, ho, ?_, ?_⟩
    · rw [e]; split <;> rfl
    · rw [e]; split <;> rfl
  have hrl2 : ∀ (us : List sr_O) (a p : Nat) (o : sr_O), sr_ob a us p o → ∃ x, sr_ob a (sr_rl (sr_mm rc) (sr_f os rt) a us) p x := by
    intro us
    induction us with
    | nil => intro a p o h; exact h.elim
    | cons u us ih =>
      intro a p o h
      rcases h with ⟨rfl, rfl⟩ | h
      · exact ⟨_, Or.inl ⟨rfl, rfl⟩⟩
      · obtain ⟨x, hx⟩ := ih _ _ _ h
        refine ⟨x, Or.inr ?_⟩
        rw [sr_rl_sz]
        exact hx
  have hbl := sr_bl_eq (rc := rc) (T := T) (sr_rl (sr_mm rc) (sr_f os rt) 1 os) 1 1 (F, W, Nm, sr_do rc T 1 os D)
    (fun p x hx => by
      obtain ⟨o, ho, e1, e2⟩ := hrl p x hx
      rw [e1, e2]
      exact hd p o ho) d1 (Nat.le_refl _) (Nat.le_refl _) (by rw [sr_rl_tot]; exact hb)
    (fun p x hx => by
      obtain ⟨o, ho, -⟩ := hrl p x hx
      rw [sr_pl_rl]
      exact hTp p o ho)
    (fun q h1 h2 h3 => hz q (fun o ho => by
      obtain ⟨x, hx⟩ := hrl2 os 1 q o ho
      exact h3 x hx) h2)
  have hble : ∀ (us : List sr_O) (a : Nat) (s : sr_B), sr_bl rc T a (sr_rl (sr_mm rc) (sr_f os rt) a us) s = sr_bl rc T a us s := by
    intro us
    induction us with
    | nil => intro a s; rfl
    | cons u us ih =>
      intro a s
      simp only [sr_rl, sr_bl, sr_rl_sz]
      exact ih _ _
  rw [hble, sr_rl_kp, show (sr_kp (sr_mm rc) 1 os).map (sr_ro (sr_f os rt)) = sr_so os rt from by rw [hkp]; rfl] at hbl
  refine ⟨fun r hr => hTv _ (hva.1 r hr), by rw [hkp, sr_so_tot], by rw [hkp, sr_so_len], hbl.1, hbl.2.1, ?_⟩
  intro q h1 h2
  by_cases hq : q = 0
  · subst hq
    rw [(hbl.2.2.2 0 (by omega)).1]
    exact hz 0 (fun o ho => by have := (sr_ob_bd _ _ _ _ ho).1; omega) (by omega)
  · exact hbl.2.2.1 q (by omega) h2 h1
