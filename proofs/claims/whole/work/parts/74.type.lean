/-! ===== what is read is well formed ===== -/
theorem kV_rg {T : Nat → Int32} {n i : Nat} (h : kK T n i = 16) : ∃ m, m < 10000 ∧ kV T n i = nI m := by
  unfold kK toK at h
  unfold kV toV
  generalize psN T n i = p at h ⊢
  by_cases h1 : n ≤ p
  · rw [if_pos h1] at h; exact absurd h (by decide)
  · rw [if_neg h1] at h
    by_cases h2 : leB (T p) = true
    · rw [if_pos h2] at h
      exfalso
      split at h
      · exact absurd h (by decide)
      · rcases wdN_rg (T := T) (a := p) (z := toE T n p) with q | ⟨k, hk, q⟩
        · rw [q] at h; exact absurd h (by decide)
        · rw [q] at h; exact absurd (nI_inj (a := k) (b := 16) (by omega) (by decide) h) (by omega)
    · rw [if_neg h2] at h
      by_cases h3 : diB (T p) = true
      · rw [if_pos h3] at h
        have e : toE T n p = rnE diB T (n - p) p := by unfold toE; rw [if_neg h1, if_neg h2, if_pos h3]
        have h4 : toE T n p - p ≤ 4 := by
          by_cases q : toE T n p - p ≤ 4
          · exact q
          · rw [if_neg q] at h; exact absurd h (by decide)
        have h5 := (toE_lt (T := T) (n := n) (p := p) (by omega)).1
        have hall := rnE_all (P := diB) (T := T) (n - p) p
        rw [← e] at hall
        have hd := dv_eq (T := T) (p := p) (toE T n p - p - 1) (by omega) (fun q hq => hall (p + q) (by omega) (by omega))
        obtain ⟨m, hm, em⟩ := hd.2
        rw [show toE T n p - p - 1 + 1 = toE T n p - p by omega] at em hm
        refine ⟨m, Nat.lt_of_lt_of_le hm ?_, em⟩
        exact Nat.pow_le_pow_right (by decide) h4
      · rw [if_neg h3] at h
        by_cases h6 : siB (T p) = true
        · rw [if_pos h6, ] at h
          rw [h] at h6; exact absurd h6 (by decide)
        · rw [if_neg h6] at h; exact absurd h (by decide)
theorem ty_app : ∀ {a b : Cd} {t : List Bool}, tyCd (a ++ b) t = (tyCd a t).bind (tyCd b)
  | [], b, t => rfl
  | p :: a, b, t => by
    show tyCd (p :: (a ++ b)) t = _
    unfold tyCd
    cases tyS p t with
    | none => rfl
    | some t1 =>
      simp only
      by_cases h : t1.length ≤ 32
      · simp only [h, if_true]; exact ty_app
      · simp only [h, if_false]; rfl
theorem ty_ap {a b : Cd} {t t1 t2 : List Bool} (h1 : tyCd a t = some t1) (h2 : tyCd b t1 = some t2) : tyCd (a ++ b) t = some t2 := by
  rw [ty_app, h1]; exact h2
theorem ty_1 {p : Int32 × Int32} {t t1 : List Bool} (h : tyS p t = some t1) (hl : t1.length ≤ 32) : tyCd [p] t = some t1 := by
  unfold tyCd
  rw [h]
  simp only [hl, if_true]; rfl
theorem ty_u {T : Nat → Int32} {n i : Nat} {q : Cd × Nat} (h : uR T n i = .inr q) {t : List Bool} (hl : t.length < 32) : tyCd q.1 t = some (false :: t) := by
  unfold uR at h
  split at h
  · cases h; exact ty_1 rfl (by simp; omega)
  · split at h
    · rename_i h2
      cases h
      refine ty_1 ?_ (by simp; omega)
      obtain ⟨k, h3, h4⟩ : ∃ k, (7 ≤ k ∧ k ≤ 15) ∧ kK T n i = nI k := by
        have hb := inB_t.mp h2
        obtain ⟨k, ek, hk⟩ := nI_ofx (x := kK T n i) (Int32.le_trans (by decide) hb.1)
        rw [ek] at hb
        exact ⟨k, ⟨Nat.le_of_not_lt fun q => absurd hb.1 (nI_ge (a := k) (b := 7) q (by decide)), Nat.le_of_not_lt fun q => absurd hb.2 (nI_ge (a := 15) (b := k) q hk)⟩, ek⟩
      unfold tyS
      rw [if_neg (show ¬ (1 : Int32) = 0 by decide), if_pos rfl, h4, show nI k - 7 = nI (k - 7) from pk_sub (b := 7) (by omega), if_pos]
      exact inB_t.mpr ⟨nI_le (a := 0) (by omega) (by omega), nI_le (b := 8) (by omega) (by decide)⟩
    · cases h
def wT : Option Int32 → List Bool → List Bool
  | none, t => false :: t
  | some _, t => false :: false :: t
theorem ty_wC {W : Option Int32} (hW : W = none ∨ W = some 2 ∨ W = some 3) {t : List Bool} (hl : t.length < 32) : tyCd (wC W) (wT W t) = some (false :: t) := by
  rcases hW with rfl | rfl | rfl
  · rfl
  · exact ty_1 rfl (by simp; omega)
  · exact ty_1 rfl (by simp; omega)
theorem ty_dv {v : Nat} (h0 : 0 < v) (hv : v < 10000) {t : List Bool} (hl : t.length < 32) : tyCd [(5, nI v)] (false :: t) = some (false :: t) := by
  refine ty_1 ?_ (by simp; omega)
  unfold tyS
  rw [if_neg (show ¬ (5 : Int32) = 0 by decide), if_neg (show ¬ (5 : Int32) = 1 by decide), if_pos rfl]
  have e : inB (nI v) 1 9999 = true := inB_t.mpr ⟨nI_le (a := 1) (by omega) (by omega), nI_le (b := 9999) (by omega) (by decide)⟩
  simp only
  rw [if_pos e]
theorem ty_SmT {T : Nat → Int32} {n : Nat} {q : Cd × Nat} {t : List Bool} (hl : t.length + 3 ≤ 32) : ∀ (f i : Nat) (W : Option Int32) (acc : Cd), (W = none ∨ W = some 2 ∨ W = some 3) → tyCd acc t = some (wT W t) → SmT T n f W i acc (.inr q) → tyCd q.1 t = some (false :: t)
  | 0, _, _, _, _, _, h => h.elim
  | f + 1, i, W, acc, hW, ha, h => by
    have hw : (wT W t).length ≤ t.length + 2 := by cases W <;> simp [wT]
    unfold SmT at h
    split at h
    · split at h
      · cases h
      · rename_i r hr
        refine ty_SmT hl f r.2 _ _ ?_ (ty_ap (ty_ap ha (ty_wC hW (by omega))) ?_) h
        · split
          · exact Or.inr (Or.inl rfl)
          · exact Or.inr (Or.inr rfl)
        · exact ty_u hr (by show t.length + 1 < 32; omega)
    · split at h
      · split at h
        · cases h
        · rename_i r hr
          refine ty_SmT hl f r.2 _ _ hW (ty_ap (ty_ap ha (ty_u hr (by omega))) ?_) h
          cases W
          · exact ty_1 rfl (by show t.length + 1 ≤ 32; omega)
          · exact ty_1 rfl (by show t.length + 1 + 1 ≤ 32; omega)
      · split at h
        · split at h
          · rename_i h16
            split at h
            · cases h
            · rename_i h0
              obtain ⟨v, hv, ev⟩ := kV_rg h16
              refine ty_SmT hl f (i + 2) _ _ hW (ty_ap ha ?_) h
              rw [ev]
              have hv0 : 0 < v := Nat.pos_of_ne_zero fun z => h0 (by rw [ev, z]; rfl)
              cases W
              · exact ty_dv hv0 hv (by omega)
              · exact ty_dv hv0 hv (by simp; omega)
          · cases h
        · cases h
          exact ty_ap ha (ty_wC hW (by omega))
theorem ty_Sm {T : Nat → Int32} {n i : Nat} {q : Cd × Nat} {t : List Bool} (hl : t.length + 3 ≤ 32) (h : Sm T n i (.inr q)) : tyCd q.1 t = some (false :: t) := by
  unfold Sm at h
  split at h
  · cases h
  · rename_i r hr
    obtain ⟨f, hf⟩ := h
    exact ty_SmT hl f r.2 none r.1 (Or.inl rfl) (ty_u hr (by omega)) hf
theorem ty_cm (k : Int32) {t : List Bool} (hl : t.length < 32) : tyCd [(cmO k, 0)] (false :: false :: t) = some (true :: t) := by
  refine ty_1 ?_ (by simp; omega)
  unfold cmO
  split
  · rfl
  · split <;> rfl
theorem ty_Cm {T : Nat → Int32} {n i : Nat} {q : Cd × Nat} {t : List Bool} (hl : t.length + 4 ≤ 32) (h : Cm T n i (.inr q)) : tyCd q.1 t = some (true :: t) := by
  obtain ⟨r1, h1, h2⟩ := h
  rcases h2 with ⟨e, -, e2⟩ | ⟨u, e1, h3⟩
  · cases e2
  · subst e1
    rcases h3 with ⟨-, e2⟩ | ⟨-, r2, h4, h5⟩
    · cases e2
    · rcases h5 with ⟨e, -, e2⟩ | ⟨v, e1, e2⟩
      · cases e2
      · subst e1; cases e2
        exact ty_ap (ty_ap (ty_Sm (by omega) h1) (ty_Sm (by simp; omega) h4)) (ty_cm _ (by omega))
theorem ty_wO {w : Nat} (hw : w ≤ 1) {t : List Bool} (hl : t.length < 32) : tyCd (wO w) (List.replicate (w + 1) true ++ t) = some (true :: t) := by
  match w, hw with
  | 0, _ => rfl
  | 1, _ => exact ty_1 rfl (by simp; omega)
theorem ty_AnT {T : Nat → Int32} {n : Nat} {C : Nat → PR → Prop} {q : Cd × Nat} {t : List Bool} (hl : t.length + 3 ≤ 32) (hC : ∀ (i : Nat) (u : Cd × Nat) (s : List Bool), s.length ≤ t.length + 2 → C i (.inr u) → tyCd u.1 s = some (true :: s)) : ∀ (f w i : Nat) (acc : Cd), w ≤ 1 → tyCd acc t = some (List.replicate (w + 1) true ++ t) → AnT T n C f w i acc (.inr q) → tyCd q.1 t = some (true :: t)
  | 0, _, _, _, _, _, h => h.elim
  | f + 1, w, i, acc, hw, ha, h => by
    unfold AnT at h
    split at h
    · obtain ⟨r1, h1, h2⟩ := h
      rcases h2 with ⟨e, -, e2⟩ | ⟨u, e1, h3⟩
      · cases e2
      · subst e1
        refine ty_AnT hl hC f w u.2 _ hw (ty_ap (ty_ap ha (hC _ u _ (by simp; omega) h1)) ?_) h3
        match w, hw with
        | 0, _ => exact ty_1 rfl (by simp; omega)
        | 1, _ => exact ty_1 rfl (by simp; omega)
    · split at h
      · obtain ⟨r1, h1, h2⟩ := h
        rcases h2 with ⟨e, -, e2⟩ | ⟨u, e1, h3⟩
        · cases e2
        · subst e1
          exact ty_AnT hl hC f 1 u.2 _ (Nat.le_refl _) (ty_ap (ty_ap ha (ty_wO hw (by omega))) (hC _ u _ (by simp) h1)) h3
      · cases h
        exact ty_ap ha (ty_wO hw (by omega))
theorem ty_An {T : Nat → Int32} {n : Nat} {C : Nat → PR → Prop} {i : Nat} {q : Cd × Nat} {t : List Bool} (hl : t.length + 3 ≤ 32) (hC : ∀ (i : Nat) (u : Cd × Nat) (s : List Bool), s.length ≤ t.length + 2 → C i (.inr u) → tyCd u.1 s = some (true :: s)) (h : An T n C i (.inr q)) : tyCd q.1 t = some (true :: t) := by
  obtain ⟨r1, h1, h2⟩ := h
  rcases h2 with ⟨e, -, e2⟩ | ⟨u, e1, f, h3⟩
  · cases e2
  · subst e1
    exact ty_AnT hl hC f 0 u.2 u.1 (Nat.zero_le _) (hC _ u _ (by omega) h1) h3
theorem ty_Cn {T : Nat → Int32} {n : Nat} : ∀ {r i : Nat} {q : Cd × Nat} {t : List Bool}, t.length + 2 * r + 4 ≤ 32 → Cn T n r i (.inr q) → tyCd q.1 t = some (true :: t)
  | 0, i, q, t, hl, h => by
    unfold Cn at h
    split at h
    · cases h
    · exact ty_Cm (by omega) h
  | r + 1, i, q, t, hl, h => by
    unfold Cn at h
    split at h
    · obtain ⟨r1, h1, h2⟩ := h
      rcases h2 with ⟨e, -, e2⟩ | ⟨u, e1, e2⟩
      · cases e2
      · subst e1; cases e2
        exact ty_ap (ty_Cn (by omega) h1) (ty_1 rfl (by simp; omega))
    · split at h
      · obtain ⟨r1, h1, h2⟩ := h
        rcases h2 with ⟨e, -, e2⟩ | ⟨u, e1, h3⟩
        · cases e2
        · subst e1
          have h4 := ty_An (t := t) (by omega) (fun i u s hs hc => ty_Cn (by omega) hc) h1
          rcases h3 with ⟨-, e2⟩ | ⟨-, e2⟩
          · cases e2; exact h4
          · cases e2
      · exact ty_Cm (by omega) h
theorem ty_Rd {T : Nat → Int32} {n : Nat} {ls : List Ln} : ∀ (f i : Nat) (acc : List Ln), (∀ q ∈ acc, lnOK q) → RdT T n f i acc (.inr ls) → ∀ q ∈ ls, lnOK q
  | 0, _, _, _, h => h.elim
  | f + 1, i, acc, ha, h => by
    unfold RdT at h
    split at h
    · rename_i hk
      split at h
      · cases h
      · obtain ⟨r1, hE, h5⟩ := h
        rcases h5 with ⟨e, -, e2⟩ | ⟨q, e1, h6⟩
        · cases e2
        · subst e1
          unfold RdB at h6
          rcases h6 with ⟨-, e2⟩ | ⟨-, r2, hA, h7⟩
          · cases e2
          · rcases h7 with ⟨e, -, e2⟩ | ⟨u, e1, h8⟩
            · cases e2
            · subst e1
              rcases h8 with ⟨-, e2⟩ | ⟨-, h9⟩
              · cases e2
              · refine ty_Rd f _ _ (fun x hx => ?_) h9
                rcases List.mem_append.mp hx with hx | hx
                · exact ha x hx
                · rw [List.mem_singleton.mp hx]
                  refine ⟨?_, fun h0 => ?_, ty_An (t := []) (by decide) (fun i u s hs hc => ty_Cn (by simp at hs; omega) hc) hA⟩
                  · obtain ⟨z, hz, e⟩ := in_nat (n := 2) hk rfl (by decide)
                    exact ⟨z, by omega, e⟩
                  · unfold LnE at hE
                    rw [if_pos h0] at hE
                    exact ty_Sm (by decide) hE
    · split at h
      · cases h; exact ha
      · cases h
