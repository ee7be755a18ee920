/-! THE SLIDE ITSELF: what comes of the objects and the roots; the class's way to it -/
noncomputable def sr_f (os : List sr_O) (rt : Nat → Int32) : Int32 → Int32 := sr_pl (sr_m os rt) 1 1 os
noncomputable def sr_so (os : List sr_O) (rt : Nat → Int32) : List sr_O := (sr_kp (sr_m os rt) 1 os).map (sr_ro (sr_f os rt))
theorem sr_so_tot (os : List sr_O) (rt : Nat → Int32) : sr_tot (sr_so os rt) = sr_tot (sr_kp (sr_m os rt) 1 os) := sr_tot_map _ _
theorem sr_so_le (os : List sr_O) (rt : Nat → Int32) : sr_tot (sr_so os rt) ≤ sr_tot os := by rw [sr_so_tot]; exact sr_kp_tot os 1
theorem sr_so_len (os : List sr_O) (rt : Nat → Int32) : (sr_so os rt).length = (sr_kp (sr_m os rt) 1 os).length := List.length_map _
theorem sr_so_ok {os : List sr_O} {rt : Nat → Int32} (h : sr_ok os) : sr_ok (sr_so os rt) := by
  intro x hx
  obtain ⟨o, ho, rfl⟩ := List.mem_map.mp hx
  exact h o (sr_kp_mem os 1 o ho)
theorem sr_f_at {os : List sr_O} {rt : Nat → Int32} (hb : 1 + sr_tot os < 2 ^ 31) {p : Nat} {o : sr_O} (hp : sr_ob 1 os p o) (hm : sr_m os rt p = true) : ∃ p', sr_f os rt (nI p) = nI p' ∧ sr_ob 1 (sr_so os rt) p' (sr_ro (sr_f os rt) o) := by
  obtain ⟨xs, ys, h1, h2⟩ := sr_ob_split os 1 p o hp
  refine ⟨1 + sr_tot (sr_kp (sr_m os rt) 1 xs), ?_, ?_⟩
  · show sr_pl (sr_m os rt) 1 1 os (nI p) = _
    generalize sr_m os rt = m
    subst h1; subst h2
    exact sr_pl_at xs o ys 1 1 hb
  · refine (sr_ob_map _ _ _ _ _).mpr ⟨o, ?_, rfl⟩
    have e : sr_kp (sr_m os rt) 1 os = sr_kp (sr_m os rt) 1 xs ++ o :: sr_kp (sr_m os rt) (p + sr_sz o) ys := by
      generalize sr_m os rt = m at hm ⊢
      rw [h1, sr_kp_app, ← h2]
      show _ ++ (if m p = true then _ else _) = _
      rw [if_pos hm]
    rw [e]
    exact sr_ob_mid _ _ _ _
theorem sr_f_0 {os : List sr_O} {rt : Nat → Int32} (hb : 1 + sr_tot os < 2 ^ 31) : sr_f os rt 0 = 0 := sr_pl_0 os 1 1 (Nat.le_refl _) hb
theorem sr_so_va {os : List sr_O} {rt : Nat → Int32} (hb : 1 + sr_tot os < 2 ^ 31) (hva : sr_va os rt) : sr_va (sr_so os rt) (fun r => sr_f os rt (rt r)) := by
  have key : ∀ v, (v = 0 ∨ ∃ p o, sr_ob 1 os p o ∧ v = nI p ∧ sr_m os rt p = true) → sr_ad (sr_so os rt) (sr_f os rt v) := by
    rintro v (rfl | ⟨p, o, hp, rfl, hm⟩)
    · exact Or.inl (sr_f_0 hb)
    · obtain ⟨p', e, h⟩ := sr_f_at hb hp hm
      exact Or.inr ⟨p', _, h, e⟩
  refine ⟨fun r hr => key _ ?_, fun p x hx i hi => ?_⟩
  · rcases hva.1 r hr with h | ⟨p, o, hp, he⟩
    · exact Or.inl h
    · exact Or.inr ⟨p, o, hp, he, sr_b_iff.mpr ((sr_R_cl os rt).1 r hr p o hp he)⟩
  · obtain ⟨o, ho, rfl⟩ := (sr_ob_map _ _ _ _ _).mp hx
    obtain ⟨q, hq, hm⟩ : ∃ q, sr_ob 1 os q o ∧ sr_m os rt q = true := by
      have : ∀ (us : List sr_O) (a b p : Nat) (o : sr_O), sr_ob b (sr_kp (sr_m os rt) a us) p o → ∃ q, sr_ob a us q o ∧ sr_m os rt q = true := by
        intro us
        induction us with
        | nil => intro a b p o h; exact h.elim
        | cons u us ih =>
          intro a b p o h
          simp only [sr_kp] at h
          split at h
          · rename_i hma
            rcases h with ⟨-, rfl⟩ | h
            · exact ⟨a, Or.inl ⟨rfl, rfl⟩, hma⟩
            · obtain ⟨q, h1, h2⟩ := ih _ _ _ _ h
              exact ⟨q, Or.inr h1, h2⟩
          · obtain ⟨q, h1, h2⟩ := ih _ _ _ _ h
            exact ⟨q, Or.inr h1, h2⟩
      exact this os 1 1 p o ho
    have hi' : i < o.1 := hi
    show sr_ad _ (if i < o.1 then sr_f os rt (o.2.2.2 i) else o.2.2.2 i)
    rw [if_pos hi']
    refine key _ ?_
    rcases hva.2 q o hq i hi' with h | ⟨p', o', hp', he⟩
    · exact Or.inl h
    · exact Or.inr ⟨p', o', hp', he, sr_b_iff.mpr ((sr_R_cl os rt).2 q o hq (sr_b_iff.mp hm) i hi' p' o' hp' he)⟩
theorem sr_pl_rl (m : Nat → Bool) (f : Int32 → Int32) : ∀ (os : List sr_O) (a b : Nat) (v : Int32), sr_pl m a b (sr_rl m f a os) v = sr_pl m a b os v
  | [], _, _, _ => rfl
  | o :: os, a, b, v => by simp only [sr_rl, sr_pl, sr_rl_sz, sr_pl_rl m f os]
/-- the class's slide: places, fields, moves, over the chain's cells C -/
def sr_sC (N : Nat) (k : Nat) (C : Nat → Int32) : Nat → Int32 := sr_mv N k (sr_rfs N k (sr_chp N k C 0 1).1 1) 1
theorem sr_sC_spec {N : Nat} {os : List sr_O} {rt C : Nat → Int32} (hN : N < 2 ^ 31) (hb : 1 + sr_tot os ≤ N) (hok : sr_ok os) (hva : sr_va os rt) (hc : sr_hc C 1 os) (hmk : ∀ p o, sr_ob 1 os p o → (C (p + 2) = 0 ↔ sr_m os rt p = false)) :
    (sr_chp N os.length C 0 1).2 = nI (sr_tot (sr_so os rt)) ∧ (∀ r, r < 16 → sr_po N (sr_chp N os.length C 0 1).1 (rt r) = sr_f os rt (rt r)) ∧ sr_hc (sr_sC N os.length C) 1 (sr_so os rt) := by
  have hb' : 1 + sr_tot os < 2 ^ 31 := by omega
  obtain ⟨C2, e1, e2, e3⟩ := sr_chp_eq (m := sr_m os rt) hN os 1 0 C hc hok (Nat.le_refl _) hb (Nat.le_refl _) hmk
  have e1' : sr_chp N os.length C 0 1 = (C2, nI (sr_tot (sr_so os rt))) := by rw [sr_so_tot]; rw [Nat.zero_add] at e1; exact e1
  have hpo : ∀ C' : Nat → Int32, (∀ p o, sr_ob 1 os p o → C' (p + 2) = C2 (p + 2)) → ∀ v, (v = 0 ∨ ∃ p o, sr_ob 1 os p o ∧ v = nI p ∧ sr_m os rt p = true) → sr_po N C' v = sr_f os rt v := by
    rintro C' hC' v (rfl | ⟨p, o, hp, rfl, hm⟩)
    · rw [sr_f_0 hb']; exact if_pos rfl
    · have hbd := sr_ob_bd _ _ _ _ hp
      have h3 := sr_sz3 o
      unfold sr_po
      rw [if_neg (sr_ne0 (by omega) (by omega)), show nI p + 2 = nI (p + 2) from nI_add p 2, sr_rd_in (by omega) (by omega) hN, hC' p o hp, e3 p o hp, if_pos hm]
      rfl
  have hfld : ∀ p o, sr_ob 1 os p o → sr_m os rt p = true → ∀ i, i < o.1 → (o.2.2.2 i = 0 ∨ ∃ q x, sr_ob 1 os q x ∧ o.2.2.2 i = nI q ∧ sr_m os rt q = true) := fun p o hp hm i hi => by
    rcases hva.2 p o hp i hi with h | ⟨p', o', hp', he⟩
    · exact Or.inl h
    · exact Or.inr ⟨p', o', hp', he, sr_b_iff.mpr ((sr_R_cl os rt).2 p o hp (sr_b_iff.mp hm) i hi p' o' hp' he)⟩
  have hmk2 : ∀ p o, sr_ob 1 os p o → (C2 (p + 2) = 0 ↔ sr_m os rt p = false) := fun p o hp => by
    rw [e3 p o hp]
    cases hm : sr_m os rt p with
    | false => simp
    | true =>
      obtain ⟨p', h1, h2⟩ := sr_f_at hb' hp hm
      rw [if_pos rfl, show sr_pl (sr_m os rt) 1 (1 + 0) os (nI p) = sr_f os rt (nI p) from rfl, h1]
      have hbd := sr_ob_bd _ _ _ _ h2
      have h4 := sr_so_le os rt
      have h5 := sr_sz3 (sr_ro (sr_f os rt) o)
      simp [sr_ne0 (show 1 ≤ p' by omega) (show p' < 2 ^ 31 by omega)]
  have hrf := sr_rfs_eq (N := N) (m := sr_m os rt) (f := sr_f os rt) (full := os) hN os 1 C2 (e2.hc hc) hok (Nat.le_refl _) hb hmk2 (fun _ _ h => h) (fun C' hC' p o hp hm i hi => hpo C' hC' _ (hfld p o hp hm i hi))
  rw [show nI 1 = (1 : Int32) from rfl] at hrf
  have hmv := sr_mv_eq (N := N) (m := sr_m os rt) hN (sr_rl (sr_m os rt) (sr_f os rt) 1 os) 1 1 (sr_rfs N os.length C2 1) hrf.1 (sr_rl_ok _ _ os 1 hok) (Nat.le_refl _) (Nat.le_refl _) (by rw [sr_rl_tot]; exact hb)
    (fun p x hx => by
      obtain ⟨o, ho, -⟩ := sr_rl_ob _ _ os 1 p x hx
      rw [sr_pl_rl, hrf.2 (p + 2) (fun q y hy hq => ?_), e3 p o ho]
      have h3 := sr_sz3 o
      have hs : sr_sz y = 3 + y.1 + y.2.1 := rfl
      rcases sr_ob_sep os 1 p q o y ho hy with h | h | h
      · omega
      · omega
      · omega)
  rw [sr_rl_len, sr_rl_kp, show nI 1 = (1 : Int32) from rfl] at hmv
  rw [e1']
  refine ⟨rfl, fun r hr => hpo C2 (fun _ _ _ => rfl) _ ?_, ?_⟩
  · rcases hva.1 r hr with h | ⟨p, o, hp, he⟩
    · exact Or.inl h
    · exact Or.inr ⟨p, o, hp, he, sr_b_iff.mpr ((sr_R_cl os rt).1 r hr p o hp he)⟩
  · unfold sr_sC
    rw [e1']
    exact hmv.1
