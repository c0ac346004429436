/-! ===== conditions; the reference: readAny ===== -/
def wO (w : Nat) : Cd := List.replicate w (11, 0)
def AnT (T : Nat → Int32) (n : Nat) (C : Nat → PR → Prop) : Nat → Nat → Nat → Cd → PR → Prop
  | 0, _, _, _, _ => False
  | f + 1, w, i, acc, res => if kK T n i = 5 then (∃ r1, C (i + 1) r1 ∧ ((∃ e, r1 = .inl e ∧ res = .inl e) ∨ ∃ q, r1 = .inr q ∧ AnT T n C f w q.2 (acc ++ q.1 ++ [(10, 0)]) res))
    else if kK T n i = 4 then (∃ r1, C (i + 1) r1 ∧ ((∃ e, r1 = .inl e ∧ res = .inl e) ∨ ∃ q, r1 = .inr q ∧ AnT T n C f 1 q.2 (acc ++ wO w ++ q.1) res))
    else res = .inr (acc ++ wO w, i)
def An (T : Nat → Int32) (n : Nat) (C : Nat → PR → Prop) (i : Nat) (res : PR) : Prop := ∃ r1, C i r1 ∧ ((∃ e, r1 = .inl e ∧ res = .inl e) ∨ ∃ q, r1 = .inr q ∧ ∃ f, AnT T n C f 0 q.2 q.1 res)
def Cn (T : Nat → Int32) (n : Nat) : Nat → Nat → PR → Prop
  | 0, i, res => if kK T n i = 6 ∨ kK T n i = 40 then res = .inl (3, i) else Cm T n i res
  | r + 1, i, res => if kK T n i = 6 then (∃ r1, Cn T n r (i + 1) r1 ∧ ((∃ e, r1 = .inl e ∧ res = .inl e) ∨ ∃ q, r1 = .inr q ∧ res = .inr (q.1 ++ [(9, 0)], q.2)))
    else if kK T n i = 40 then (∃ r1, An T n (Cn T n r) (i + 1) r1 ∧ ((∃ e, r1 = .inl e ∧ res = .inl e) ∨ ∃ q, r1 = .inr q ∧ ((kK T n q.2 = 41 ∧ res = .inr (q.1, q.2 + 1)) ∨ (¬ kK T n q.2 = 41 ∧ res = .inl (1, q.2)))))
    else Cm T n i res
theorem AnT_len {T : Nat → Int32} {n : Nat} {C : Nat → PR → Prop} (hC : ∀ i q, C i (.inr q) → (flt q.1).length + i ≤ q.2) : ∀ {f w i : Nat} {acc : Cd} {q : Cd × Nat}, AnT T n C f w i acc (.inr q) → (flt q.1).length + i ≤ (flt acc).length + w + q.2
  | 0, _, _, _, _, h => h.elim
  | f + 1, w, i, acc, q, h => by
    have hw : (flt (wO w)).length = w := by unfold wO; rw [flt_rep (by decide), List.length_replicate]
    unfold AnT at h
    split at h
    · obtain ⟨r1, h1, h2⟩ := h
      rcases h2 with ⟨e, -, e2⟩ | ⟨u, e1, h3⟩
      · cases e2
      · subst e1
        have h4 := AnT_len hC h3
        have h5 := hC _ _ h1
        rw [flt_app, flt_app, List.length_append, List.length_append, flt_l1 (by decide)] at h4
        omega
    · split at h
      · obtain ⟨r1, h1, h2⟩ := h
        rcases h2 with ⟨e, -, e2⟩ | ⟨u, e1, h3⟩
        · cases e2
        · subst e1
          have h4 := AnT_len hC h3
          have h5 := hC _ _ h1
          rw [flt_app, flt_app, List.length_append, List.length_append, hw] at h4
          omega
      · cases h
        rw [flt_app, List.length_append, hw]; omega
theorem An_len {T : Nat → Int32} {n : Nat} {C : Nat → PR → Prop} (hC : ∀ i q, C i (.inr q) → (flt q.1).length + i ≤ q.2) {i : Nat} {q : Cd × Nat} (h : An T n C i (.inr q)) : (flt q.1).length + i ≤ q.2 := by
  obtain ⟨r1, h1, h2⟩ := h
  rcases h2 with ⟨e, -, e2⟩ | ⟨u, e1, f, h3⟩
  · cases e2
  · subst e1
    have h4 := AnT_len hC h3
    have h5 := hC _ _ h1
    omega
theorem Cn_len {T : Nat → Int32} {n : Nat} : ∀ {r i : Nat} {q : Cd × Nat}, Cn T n r i (.inr q) → (flt q.1).length + i ≤ q.2
  | 0, i, q, h => by
    unfold Cn at h
    split at h
    · cases h
    · exact Cm_len h
  | r + 1, i, q, h => by
    unfold Cn at h
    split at h
    · obtain ⟨r1, h1, h2⟩ := h
      rcases h2 with ⟨e, -, e2⟩ | ⟨u, e1, e2⟩
      · cases e2
      · subst e1; cases e2
        have h3 := Cn_len h1
        rw [flt_app, List.length_append, flt_l1 (by decide)]; omega
    · split at h
      · obtain ⟨r1, h1, h2⟩ := h
        rcases h2 with ⟨e, -, e2⟩ | ⟨u, e1, h3⟩
        · cases e2
        · subst e1
          have h4 := An_len (fun i q => Cn_len) h1
          rcases h3 with ⟨-, e2⟩ | ⟨-, e2⟩
          · cases e2; show (flt u.1).length + i ≤ u.2 + 1; omega
          · cases e2
      · exact Cm_len h
def CnL (γ : GE) (b c : Bool) (J : AJ) (T : Nat → Int32) (n : Nat) (X : AI) (Post : PT) (r : Nat) : Prop := ∀ (i : Nat) (res : PR), Cn T n r i res → ∀ (Y : AI) (l : List (Int32 × Int32)) (p : List Int32) (k bk q0 : Nat), PSt T n Y i → Out Y l → Pnd Y (List.replicate k 9 ++ p) → (∀ x s, p = x :: s → ¬ x = 9) → Y 100 37 = nI q0 → q0 + r = 8 ∧ bk ≤ q0 → k ≤ q0 → l.length + (k + p.length) ≤ i → k + p.length ≤ 3 * q0 + 2 → fr qP X Y → (∀ e X', res = .inl e → fr qP X X' → X' 100 40 = e.1 → X' 100 41 = nI (psN T n e.2) → Post (some (.int (-1))) (SS b c) X' J) → (∀ q Z, res = .inr q → PSt T n Z q.2 → Out Z (l ++ flt q.1 ++ List.replicate k (9, 0)) → Pnd Z p → Z 100 37 = nI (q0 - k) → fr qP X Z → Rj γ mX12_readAny 7 0 0 Post (9, [some (.ref 100), some (.int (nI bk)), some (.int 0), none], [], (SS b c), Z, J, 0, 0)) → Rj γ mX12_readAny 7 0 0 Post (9, [some (.ref 100), some (.int (nI bk)), some (.int 1), none], [], (SS b c), Y, J, 0, 0)
def AnL (γ : GE) (b c : Bool) (J : AJ) (T : Nat → Int32) (n : Nat) (X : AI) (Post : PT) (r : Nat) : Prop := ∀ (i : Nat) (res : PR), An T n (Cn T n r) i res → ∀ (Y : AI) (l : List (Int32 × Int32)) (p : List Int32) (bk q0 : Nat), PSt T n Y i → Out Y l → Pnd Y p → (∀ x s, p = x :: s → ¬ x = 9 ∧ ¬ x = 10 ∧ ¬ x = 11) → Y 100 37 = nI q0 → q0 + r = 8 ∧ bk ≤ q0 → l.length + p.length ≤ i → p.length ≤ 3 * q0 → fr qP X Y → (∀ e X', res = .inl e → fr qP X X' → X' 100 40 = e.1 → X' 100 41 = nI (psN T n e.2) → Post (some (.int (-1))) (SS b c) X' J) → (∀ q Z, res = .inr q → PSt T n Z q.2 → Out Z (l ++ flt q.1) → Pnd Z p → Z 100 37 = nI q0 → fr qP X Z → Rj γ mX12_readAny 7 0 0 Post (185, [some (.ref 100), some (.int (nI bk)), some (.int 0), none], [], (SS b c), Z, J, 0, 0)) → Rj γ mX12_readAny 7 0 0 Post (9, [some (.ref 100), some (.int (nI bk)), some (.int 1), none], [], (SS b c), Y, J, 0, 0)
theorem cons_ne {x : Int32} {v : Int32} {p : List Int32} (h : ¬ x = v) : ∀ y s, x :: p = y :: s → ¬ y = v := fun y s e => by injection e with e1 _; rw [← e1]; exact h
theorem rep_ne {v u : Int32} (h : ¬ u = v) {p : List Int32} (hp : ∀ x s, p = x :: s → ¬ x = v) : ∀ (w : Nat) x s, List.replicate w u ++ p = x :: s → ¬ x = v
  | 0, x, s, e => hp x s e
  | w + 1, x, s, e => by rw [List.replicate_succ] at e; injection e with e1 _; rw [← e1]; exact h
theorem an_lp (γ : GE) (b c : Bool) (J : AJ) (T : Nat → Int32) (n : Nat) (X : AI) (Post : PT) (hT : TpOK T n) (r : Nat) (hC : CnL γ b c J T n X Post r) (res : PR) (l : List (Int32 × Int32)) (p : List Int32) (bk q0 : Nat) (hp : ∀ x s, p = x :: s → ¬ x = 9 ∧ ¬ x = 10 ∧ ¬ x = 11) (hq0 : q0 + r = 8 ∧ bk ≤ q0) (hpl : p.length ≤ 3 * q0) (KF : (∀ e X', res = .inl e → fr qP X X' → X' 100 40 = e.1 → X' 100 41 = nI (psN T n e.2) → Post (some (.int (-1))) (SS b c) X' J)) (KS : ∀ q Z, res = .inr q → PSt T n Z q.2 → Out Z (l ++ flt q.1) → Pnd Z p → Z 100 37 = nI q0 → fr qP X Z → Rj γ mX12_readAny 7 0 0 Post (185, [some (.ref 100), some (.int (nI bk)), some (.int 0), none], [], (SS b c), Z, J, 0, 0)) : ∀ (f w a i : Nat) (acc : Cd) (Y : AI), AnT T n (Cn T n r) f w i (acc ++ List.replicate a (10, 0)) res → a ≤ 1 → w ≤ 1 → PSt T n Y i → Out Y (l ++ flt acc) → Pnd Y (List.replicate a 10 ++ (List.replicate w 11 ++ p)) → Y 100 37 = nI q0 → (l ++ flt acc).length + (a + w + p.length) ≤ i → fr qP X Y → Rj γ mX12_readAny 7 0 0 Post (9, [some (.ref 100), some (.int (nI bk)), some (.int 0), none], [], (SS b c), Y, J, 0, 0) := by
  have efl : ∀ (c : Cd) (k : Nat) (v : Int32), ¬ v = 5 → flt c ++ List.replicate k (v, 0) = flt (c ++ List.replicate k (v, 0)) := fun c k v h => by rw [flt_app, flt_rep h]
  intro f
  induction f with
  | zero => intro w a i acc Y hd; exact hd.elim
  | succ f ih =>
    intro w a i acc Y hd ha hw hP hO hPd hq hl hf
    have h8 := hT.1
    have hPi := hP.2.2.2.1
    have hlen : (l ++ flt (acc ++ List.replicate a (10, 0))).length = (l ++ flt acc).length + a := by rw [← efl acc a 10 (by decide), ← List.append_assoc, List.length_append, List.length_replicate]
    unfold AnT at hd
    by_cases k5 : kK T n i = 5
    · rw [if_pos k5] at hd
      obtain ⟨r1, hc, hc2⟩ := hd
      refine r_run okX12_readAny 1 (cs := []) (σ' := (10, [some (.ref 100), some (.int (nI bk)), some (.int 0), none], [.int 0], (SS b c), Y, J, 0, 0)) rfl trivial ?_
      refine r_ifc okX12_readAny rfl (fun (h10 : (0 : Int32) = (0 : Int32)) => ?_) (fun (h10 : ¬ (0 : Int32) = (0 : Int32)) => ?_)
      · refine r_run okX12_readAny 2 (cs := []) (σ' := (111, [some (.ref 100), some (.int (nI bk)), some (.int 0), none], [.int 5, .ref 100], (SS b c), Y, J, 0, 0)) rfl trivial ?_
        refine r_callV okX12_readAny okX12_isWord [.int 5] [] 100 rfl rfl rfl kkX12_isWord rfl rfl (by decide) rfl rfl rfl (by decide) ⟨Nat.le_refl _, Nat.le_refl _⟩ (Nat.le_of_ble_eq_true rfl) (c_isWord1 γ hP 5 (by decide) rfl k5) (fun v1 S1 I1 J1 hp => ?_)
        obtain ⟨rfl, rfl, rfl, rfl⟩ := hp
        show Rj _ _ _ _ _ _ (114, [some (.ref 100), some (.int (nI bk)), some (.int 0), none], [.int 1], (SS b c), Y, J, 0, 0)
        refine r_ifc okX12_readAny rfl (fun (h114 : (1 : Int32) = (0 : Int32)) => ?_) (fun (h114 : ¬ (1 : Int32) = (0 : Int32)) => ?_)
        · exact absurd h114 (by decide)
        · refine r_run okX12_readAny 2 (cs := []) (σ' := (120, [some (.ref 100), some (.int (nI bk)), some (.int 0), none], [.int 10, .ref 100], (SS b c), Y, J, 0, 0)) rfl trivial ?_
          refine r_callV okX12_readAny okX12_settles [.int 10] [] 100 rfl rfl rfl kkX12_settles rfl rfl (by decide) rfl rfl rfl (by decide) ⟨Nat.le_refl _, Nat.le_refl _⟩ (Nat.le_of_ble_eq_true rfl) (c_settles γ 10 a (List.replicate w 11 ++ p) (l ++ flt acc) q0 hPd (rep_ne (by decide) (fun x s e => (hp x s e).2.1) w) hO (by omega) (by rw [List.length_append, List.length_replicate]; omega) hq (fun h => absurd h (by decide))) (fun v1 S1 I1 J1 hp => ?_)
          obtain ⟨rfl, rfl, ⟨X1, rfl, s1, pn1, o1, op1⟩, rfl⟩ := hp
          rw [if_neg (by decide)] at op1
          rw [List.append_assoc, efl acc a 10 (by decide)] at o1
          show Rj _ _ _ _ _ _ (123, [some (.ref 100), some (.int (nI bk)), some (.int 0), none], [], (SS b c), X1, J, 0, 0)
          refine r_run okX12_readAny 2 (cs := []) (σ' := (126, [some (.ref 100), some (.int (nI bk)), some (.int 0), none], [.int 10, .ref 100], (SS b c), X1, J, 0, 0)) rfl trivial ?_
          refine r_callV okX12_readAny okX12_waits [.int 10] [] 100 rfl rfl rfl kkX12_waits rfl rfl (by decide) rfl rfl rfl (by decide) ⟨Nat.le_refl _, Nat.le_refl _⟩ (Nat.le_of_ble_eq_true rfl) (c_waits γ _ pn1 (by rw [List.length_append, List.length_replicate]; omega) 10) (fun v1 S1 I1 J1 hp => ?_)
          obtain ⟨rfl, rfl, ⟨X2, rfl, f2, pn2, op2⟩, rfl⟩ := hp
          show Rj _ _ _ _ _ _ (129, [some (.ref 100), some (.int (nI bk)), some (.int 0), none], [], (SS b c), X2, J, 0, 0)
          refine r_run okX12_readAny 1 (cs := []) (σ' := (130, [some (.ref 100), some (.int (nI bk)), some (.int 0), none], [.ref 100], (SS b c), X2, J, 0, 0)) rfl trivial ?_
          refine r_callV okX12_readAny okX12_next [] [] 100 rfl rfl rfl kkX12_next rfl rfl (by decide) rfl rfl rfl (by decide) ⟨Nat.le_refl _, Nat.le_refl _⟩ (Nat.le_of_ble_eq_true rfl) (c_nextT γ hT (PSt_O f2 (PSt_S s1 hP)) (by rw [k5]; decide)) (fun v1 S1 I1 J1 hp => ?_)
          obtain ⟨rfl, rfl, ⟨X3, rfl, f3, p3⟩, rfl⟩ := hp
          show Rj _ _ _ _ _ _ (133, [some (.ref 100), some (.int (nI bk)), some (.int 0), none], [], (SS b c), X3, J, 0, 0)
          refine r_run okX12_readAny 3 (cs := []) (σ' := (9, [some (.ref 100), some (.int (nI bk)), some (.int 1), none], [], (SS b c), X3, J, 0, 0)) rfl trivial ?_
          have fx3 : fr qP X X3 := fr_t hf (fr_t (fS_P s1) (fr_t (fO_P f2) (f4_P f3)))
          have o3 := Out_4 f3 (Out_O f2 o1)
          have hlen : (l ++ flt (acc ++ List.replicate a (10, 0))).length = (l ++ flt acc).length + a := by rw [← efl acc a 10 (by decide), ← List.append_assoc, List.length_append, List.length_replicate]
          refine hC (i + 1) r1 hc X3 (l ++ flt (acc ++ List.replicate a (10, 0))) (10 :: (List.replicate w 11 ++ p)) 0 bk q0 p3 o3 (Pnd_k (kp_4 f3).1 (kp_4 f3).2.1 pn2) (cons_ne (by decide)) (((kp_4 f3).2.2.trans op2).trans op1) hq0 (Nat.zero_le _) (by rw [hlen]; simp only [List.length_cons, List.length_append, List.length_replicate] at hl ⊢; omega) (by rw [List.length_cons, List.length_append, List.length_replicate]; omega) fx3 ?_ ?_
          · intro e X' he h1 h2 h3
            rcases hc2 with ⟨e', e1, e2⟩ | ⟨q, e1, e2⟩
            · rw [he] at e1; cases e1; exact KF e X' e2 h1 h2 h3
            · rw [he] at e1; cases e1
          · intro q Z he hz1 hz2 hz3 hz4 hz5
            rcases hc2 with ⟨e', e1, e2⟩ | ⟨q', e1, e2⟩
            · rw [he] at e1; cases e1
            · rw [he] at e1; cases e1
              have hql := Cn_len (he ▸ hc)
              have hz2 : Out Z (l ++ flt (acc ++ List.replicate a (10, 0) ++ q.1)) := by rw [flt_app, ← List.append_assoc]; rw [List.replicate_zero, List.append_nil] at hz2; exact hz2
              exact ih w 1 q.2 (acc ++ List.replicate a (10, 0) ++ q.1) Z e2 (Nat.le_refl _) hw hz1 hz2 hz3 hz4 (by rw [flt_app (c := acc ++ List.replicate a (10, 0)), ← List.append_assoc, List.length_append, hlen]; omega) hz5
      · exact absurd h10 (by decide)
    · rw [if_neg k5] at hd
      by_cases k4 : kK T n i = 4
      · rw [if_pos k4] at hd
        obtain ⟨r1, hc, hc2⟩ := hd
        refine r_run okX12_readAny 1 (cs := []) (σ' := (10, [some (.ref 100), some (.int (nI bk)), some (.int 0), none], [.int 0], (SS b c), Y, J, 0, 0)) rfl trivial ?_
        refine r_ifc okX12_readAny rfl (fun (h10 : (0 : Int32) = (0 : Int32)) => ?_) (fun (h10 : ¬ (0 : Int32) = (0 : Int32)) => ?_)
        · refine r_run okX12_readAny 2 (cs := []) (σ' := (111, [some (.ref 100), some (.int (nI bk)), some (.int 0), none], [.int 5, .ref 100], (SS b c), Y, J, 0, 0)) rfl trivial ?_
          refine r_callV okX12_readAny okX12_isWord [.int 5] [] 100 rfl rfl rfl kkX12_isWord rfl rfl (by decide) rfl rfl rfl (by decide) ⟨Nat.le_refl _, Nat.le_refl _⟩ (Nat.le_of_ble_eq_true rfl) (c_isWord0 γ hP 5 (by decide) rfl k5) (fun v1 S1 I1 J1 hp => ?_)
          obtain ⟨rfl, rfl, rfl, rfl⟩ := hp
          show Rj _ _ _ _ _ _ (114, [some (.ref 100), some (.int (nI bk)), some (.int 0), none], [.int 0], (SS b c), Y, J, 0, 0)
          refine r_ifc okX12_readAny rfl (fun (h114 : (0 : Int32) = (0 : Int32)) => ?_) (fun (h114 : ¬ (0 : Int32) = (0 : Int32)) => ?_)
          · refine r_run okX12_readAny 2 (cs := []) (σ' := (140, [some (.ref 100), some (.int (nI bk)), some (.int 0), none], [.int 4, .ref 100], (SS b c), Y, J, 0, 0)) rfl trivial ?_
            refine r_callV okX12_readAny okX12_isWord [.int 4] [] 100 rfl rfl rfl kkX12_isWord rfl rfl (by decide) rfl rfl rfl (by decide) ⟨Nat.le_refl _, Nat.le_refl _⟩ (Nat.le_of_ble_eq_true rfl) (c_isWord1 γ hP 4 (by decide) rfl k4) (fun v1 S1 I1 J1 hp => ?_)
            obtain ⟨rfl, rfl, rfl, rfl⟩ := hp
            show Rj _ _ _ _ _ _ (143, [some (.ref 100), some (.int (nI bk)), some (.int 0), none], [.int 1], (SS b c), Y, J, 0, 0)
            refine r_ifc okX12_readAny rfl (fun (h143 : (1 : Int32) = (0 : Int32)) => ?_) (fun (h143 : ¬ (1 : Int32) = (0 : Int32)) => ?_)
            · exact absurd h143 (by decide)
            · refine r_run okX12_readAny 2 (cs := []) (σ' := (149, [some (.ref 100), some (.int (nI bk)), some (.int 0), none], [.int 10, .ref 100], (SS b c), Y, J, 0, 0)) rfl trivial ?_
              refine r_callV okX12_readAny okX12_settles [.int 10] [] 100 rfl rfl rfl kkX12_settles rfl rfl (by decide) rfl rfl rfl (by decide) ⟨Nat.le_refl _, Nat.le_refl _⟩ (Nat.le_of_ble_eq_true rfl) (c_settles γ 10 a (List.replicate w 11 ++ p) (l ++ flt acc) q0 hPd (rep_ne (by decide) (fun x s e => (hp x s e).2.1) w) hO (by omega) (by rw [List.length_append, List.length_replicate]; omega) hq (fun h => absurd h (by decide))) (fun v1 S1 I1 J1 hp => ?_)
              obtain ⟨rfl, rfl, ⟨X1, rfl, s1, pn1, o1, op1⟩, rfl⟩ := hp
              rw [if_neg (by decide)] at op1
              rw [List.append_assoc, efl acc a 10 (by decide)] at o1
              show Rj _ _ _ _ _ _ (152, [some (.ref 100), some (.int (nI bk)), some (.int 0), none], [], (SS b c), X1, J, 0, 0)
              refine r_run okX12_readAny 2 (cs := []) (σ' := (155, [some (.ref 100), some (.int (nI bk)), some (.int 0), none], [.int 11, .ref 100], (SS b c), X1, J, 0, 0)) rfl trivial ?_
              refine r_callV okX12_readAny okX12_settles [.int 11] [] 100 rfl rfl rfl kkX12_settles rfl rfl (by decide) rfl rfl rfl (by decide) ⟨Nat.le_refl _, Nat.le_refl _⟩ (Nat.le_of_ble_eq_true rfl) (c_settles γ 11 w p _ q0 pn1 (fun x s e => (hp x s e).2.2) o1 (by rw [hlen]; omega) (by omega) op1 (fun h => absurd h (by decide))) (fun v1 S1 I1 J1 hp => ?_)
              obtain ⟨rfl, rfl, ⟨X2, rfl, s2, pn2, o2, op2⟩, rfl⟩ := hp
              rw [if_neg (by decide)] at op2
              rw [List.append_assoc, efl _ w 11 (by decide)] at o2
              show Rj _ _ _ _ _ _ (158, [some (.ref 100), some (.int (nI bk)), some (.int 0), none], [], (SS b c), X2, J, 0, 0)
              refine r_run okX12_readAny 2 (cs := []) (σ' := (161, [some (.ref 100), some (.int (nI bk)), some (.int 0), none], [.int 11, .ref 100], (SS b c), X2, J, 0, 0)) rfl trivial ?_
              refine r_callV okX12_readAny okX12_waits [.int 11] [] 100 rfl rfl rfl kkX12_waits rfl rfl (by decide) rfl rfl rfl (by decide) ⟨Nat.le_refl _, Nat.le_refl _⟩ (Nat.le_of_ble_eq_true rfl) (c_waits γ _ pn2 (by omega) 11) (fun v1 S1 I1 J1 hp => ?_)
              obtain ⟨rfl, rfl, ⟨X3, rfl, f3, pn3, op3⟩, rfl⟩ := hp
              show Rj _ _ _ _ _ _ (164, [some (.ref 100), some (.int (nI bk)), some (.int 0), none], [], (SS b c), X3, J, 0, 0)
              refine r_run okX12_readAny 1 (cs := []) (σ' := (165, [some (.ref 100), some (.int (nI bk)), some (.int 0), none], [.ref 100], (SS b c), X3, J, 0, 0)) rfl trivial ?_
              refine r_callV okX12_readAny okX12_next [] [] 100 rfl rfl rfl kkX12_next rfl rfl (by decide) rfl rfl rfl (by decide) ⟨Nat.le_refl _, Nat.le_refl _⟩ (Nat.le_of_ble_eq_true rfl) (c_nextT γ hT (PSt_O f3 (PSt_S s2 (PSt_S s1 hP))) (by rw [k4]; decide)) (fun v1 S1 I1 J1 hp => ?_)
              obtain ⟨rfl, rfl, ⟨X4, rfl, f4, p4⟩, rfl⟩ := hp
              show Rj _ _ _ _ _ _ (168, [some (.ref 100), some (.int (nI bk)), some (.int 0), none], [], (SS b c), X4, J, 0, 0)
              refine r_run okX12_readAny 3 (cs := []) (σ' := (9, [some (.ref 100), some (.int (nI bk)), some (.int 1), none], [], (SS b c), X4, J, 0, 0)) rfl trivial ?_
              have fx4 : fr qP X X4 := fr_t hf (fr_t (fS_P s1) (fr_t (fS_P s2) (fr_t (fO_P f3) (f4_P f4))))
              have o4 := Out_4 f4 (Out_O f3 o2)
              have hlen2 : (l ++ flt (acc ++ List.replicate a (10, 0) ++ wO w)).length = (l ++ flt acc).length + a + w := by rw [wO, ← efl _ w 11 (by decide), ← List.append_assoc, List.length_append, hlen, List.length_replicate]
              refine hC (i + 1) r1 hc X4 (l ++ flt (acc ++ List.replicate a (10, 0) ++ wO w)) (11 :: p) 0 bk q0 p4 o4 (Pnd_k (kp_4 f4).1 (kp_4 f4).2.1 pn3) (cons_ne (by decide)) (((kp_4 f4).2.2.trans op3).trans op2) hq0 (Nat.zero_le _) (by rw [hlen2, List.length_cons]; omega) (by rw [List.length_cons]; omega) fx4 ?_ ?_
              · intro e X' he h1 h2 h3
                rcases hc2 with ⟨e', e1, e2⟩ | ⟨q, e1, e2⟩
                · rw [he] at e1; cases e1; exact KF e X' e2 h1 h2 h3
                · rw [he] at e1; cases e1
              · intro q Z he hz1 hz2 hz3 hz4 hz5
                rcases hc2 with ⟨e', e1, e2⟩ | ⟨q', e1, e2⟩
                · rw [he] at e1; cases e1
                · rw [he] at e1; cases e1
                  have hql := Cn_len (he ▸ hc)
                  have hz2 : Out Z (l ++ flt (acc ++ List.replicate a (10, 0) ++ wO w ++ q.1)) := by rw [flt_app, ← List.append_assoc]; rw [List.replicate_zero, List.append_nil] at hz2; exact hz2
                  exact ih 1 0 q.2 (acc ++ List.replicate a (10, 0) ++ wO w ++ q.1) Z (by rw [List.replicate_zero, List.append_nil]; exact e2) (Nat.zero_le _) (Nat.le_refl _) hz1 hz2 hz3 hz4 (by rw [flt_app (c := acc ++ List.replicate a (10, 0) ++ wO w), ← List.append_assoc, List.length_append, hlen2]; omega) hz5
          · exact absurd h114 (by decide)
        · exact absurd h10 (by decide)
      · rw [if_neg k4] at hd
        refine r_run okX12_readAny 1 (cs := []) (σ' := (10, [some (.ref 100), some (.int (nI bk)), some (.int 0), none], [.int 0], (SS b c), Y, J, 0, 0)) rfl trivial ?_
        refine r_ifc okX12_readAny rfl (fun (h10 : (0 : Int32) = (0 : Int32)) => ?_) (fun (h10 : ¬ (0 : Int32) = (0 : Int32)) => ?_)
        · refine r_run okX12_readAny 2 (cs := []) (σ' := (111, [some (.ref 100), some (.int (nI bk)), some (.int 0), none], [.int 5, .ref 100], (SS b c), Y, J, 0, 0)) rfl trivial ?_
          refine r_callV okX12_readAny okX12_isWord [.int 5] [] 100 rfl rfl rfl kkX12_isWord rfl rfl (by decide) rfl rfl rfl (by decide) ⟨Nat.le_refl _, Nat.le_refl _⟩ (Nat.le_of_ble_eq_true rfl) (c_isWord0 γ hP 5 (by decide) rfl k5) (fun v1 S1 I1 J1 hp => ?_)
          obtain ⟨rfl, rfl, rfl, rfl⟩ := hp
          show Rj _ _ _ _ _ _ (114, [some (.ref 100), some (.int (nI bk)), some (.int 0), none], [.int 0], (SS b c), Y, J, 0, 0)
          refine r_ifc okX12_readAny rfl (fun (h114 : (0 : Int32) = (0 : Int32)) => ?_) (fun (h114 : ¬ (0 : Int32) = (0 : Int32)) => ?_)
          · refine r_run okX12_readAny 2 (cs := []) (σ' := (140, [some (.ref 100), some (.int (nI bk)), some (.int 0), none], [.int 4, .ref 100], (SS b c), Y, J, 0, 0)) rfl trivial ?_
            refine r_callV okX12_readAny okX12_isWord [.int 4] [] 100 rfl rfl rfl kkX12_isWord rfl rfl (by decide) rfl rfl rfl (by decide) ⟨Nat.le_refl _, Nat.le_refl _⟩ (Nat.le_of_ble_eq_true rfl) (c_isWord0 γ hP 4 (by decide) rfl k4) (fun v1 S1 I1 J1 hp => ?_)
            obtain ⟨rfl, rfl, rfl, rfl⟩ := hp
            show Rj _ _ _ _ _ _ (143, [some (.ref 100), some (.int (nI bk)), some (.int 0), none], [.int 0], (SS b c), Y, J, 0, 0)
            refine r_ifc okX12_readAny rfl (fun (h143 : (0 : Int32) = (0 : Int32)) => ?_) (fun (h143 : ¬ (0 : Int32) = (0 : Int32)) => ?_)
            · refine r_run okX12_readAny 2 (cs := []) (σ' := (176, [some (.ref 100), some (.int (nI bk)), some (.int 0), none], [.int 10, .ref 100], (SS b c), Y, J, 0, 0)) rfl trivial ?_
              refine r_callV okX12_readAny okX12_settles [.int 10] [] 100 rfl rfl rfl kkX12_settles rfl rfl (by decide) rfl rfl rfl (by decide) ⟨Nat.le_refl _, Nat.le_refl _⟩ (Nat.le_of_ble_eq_true rfl) (c_settles γ 10 a (List.replicate w 11 ++ p) (l ++ flt acc) q0 hPd (rep_ne (by decide) (fun x s e => (hp x s e).2.1) w) hO (by omega) (by rw [List.length_append, List.length_replicate]; omega) hq (fun h => absurd h (by decide))) (fun v1 S1 I1 J1 hp => ?_)
              obtain ⟨rfl, rfl, ⟨X1, rfl, s1, pn1, o1, op1⟩, rfl⟩ := hp
              rw [if_neg (by decide)] at op1
              rw [List.append_assoc, efl acc a 10 (by decide)] at o1
              show Rj _ _ _ _ _ _ (179, [some (.ref 100), some (.int (nI bk)), some (.int 0), none], [], (SS b c), X1, J, 0, 0)
              refine r_run okX12_readAny 2 (cs := []) (σ' := (182, [some (.ref 100), some (.int (nI bk)), some (.int 0), none], [.int 11, .ref 100], (SS b c), X1, J, 0, 0)) rfl trivial ?_
              refine r_callV okX12_readAny okX12_settles [.int 11] [] 100 rfl rfl rfl kkX12_settles rfl rfl (by decide) rfl rfl rfl (by decide) ⟨Nat.le_refl _, Nat.le_refl _⟩ (Nat.le_of_ble_eq_true rfl) (c_settles γ 11 w p _ q0 pn1 (fun x s e => (hp x s e).2.2) o1 (by rw [hlen]; omega) (by omega) op1 (fun h => absurd h (by decide))) (fun v1 S1 I1 J1 hp => ?_)
              obtain ⟨rfl, rfl, ⟨X2, rfl, s2, pn2, o2, op2⟩, rfl⟩ := hp
              rw [if_neg (by decide)] at op2
              rw [List.append_assoc, efl _ w 11 (by decide)] at o2
              show Rj _ _ _ _ _ _ (185, [some (.ref 100), some (.int (nI bk)), some (.int 0), none], [], (SS b c), X2, J, 0, 0)
              refine r_weak (L' := [some (.ref 100), some (.int (nI bk)), some (.int 0), none]) ⟨rfl, rfl, rfl, trivial⟩ ?_
              exact KS _ X2 hd (PSt_S s2 (PSt_S s1 hP)) o2 pn2 op2 (fr_t hf (fr_t (fS_P s1) (fS_P s2)))
            · exact absurd h143 (by decide)
          · exact absurd h114 (by decide)
        · exact absurd h10 (by decide)
theorem AnL_of (γ : GE) (b c : Bool) (J : AJ) (T : Nat → Int32) (n : Nat) (X : AI) (Post : PT) (hT : TpOK T n) (r : Nat) (hC : CnL γ b c J T n X Post r) : AnL γ b c J T n X Post r := by
  intro i res ha Y l p bk q0 hP hO hPd hp hq hq0 hl hpl hf KF KS
  obtain ⟨r1, hc, hc2⟩ := ha
  refine hC i r1 hc Y l p 0 bk q0 hP hO hPd (fun x s e => (hp x s e).1) hq hq0 (Nat.zero_le _) (by omega) (by omega) hf ?_ ?_
  · intro e X' he h1 h2 h3
    rcases hc2 with ⟨e', e1, e2⟩ | ⟨q, e1, e2⟩
    · rw [he] at e1; cases e1; exact KF e X' e2 h1 h2 h3
    · rw [he] at e1; cases e1
  · intro q Z he hz1 hz2 hz3 hz4 hz5
    rcases hc2 with ⟨e', e1, e2⟩ | ⟨q', e1, f, e2⟩
    · rw [he] at e1; cases e1
    · rw [he] at e1; cases e1
      have hql := Cn_len (he ▸ hc)
      rw [List.replicate_zero, List.append_nil] at hz2
      exact an_lp γ b c J T n X Post hT r hC res l p bk q0 hp hq0 hpl KF KS f 0 0 q.2 q.1 Z (by rw [List.replicate_zero, List.append_nil]; exact e2) (Nat.zero_le _) (Nat.zero_le _) hz1 hz2 hz3 hz4 (by rw [List.length_append]; omega) hz5
theorem upI_s {I : AI} {a k : Nat} {v : Int32} : upI I a k v a k = v := by unfold upI; rw [if_pos rfl, if_pos rfl]
theorem upI_n {I : AI} {a k b : Nat} {v : Int32} (h : ¬ b = k) : upI I a k v a b = I a b := by unfold upI; rw [if_pos rfl, if_neg h]
theorem upI_c {I : AI} {a k b : Nat} {v : Int32} (h : ¬ b = a) : upI I a k v b = I b := by funext z; unfold upI; rw [if_neg h]
set_option maxHeartbeats 1500000 in
theorem CnL_all (γ : GE) (b c : Bool) (J : AJ) (T : Nat → Int32) (n : Nat) (X : AI) (Post : PT) (hT : TpOK T n) : ∀ r, CnL γ b c J T n X Post r := by
  intro r
  induction r with
  | zero =>
    intro i res hd Y l p k bk q0 hP hO hPd hp hq hq0 hk hl hkl hf KF KS
    have h8 := hT.1
    have hPi := hP.2.2.2.1
    unfold Cn at hd
    by_cases k6 : kK T n i = 6
    · rw [if_pos (Or.inl k6)] at hd
      refine r_run okX12_readAny 1 (cs := []) (σ' := (10, [some (.ref 100), some (.int (nI bk)), some (.int 1), none], [.int 1], (SS b c), Y, J, 0, 0)) rfl trivial ?_
      refine r_ifc okX12_readAny rfl (fun (h10 : (1 : Int32) = (0 : Int32)) => ?_) (fun (h10 : ¬ (1 : Int32) = (0 : Int32)) => ?_)
      · exact absurd h10 (by decide)
      · refine r_run okX12_readAny 2 (cs := []) (σ' := (16, [some (.ref 100), some (.int (nI bk)), some (.int 1), none], [.int 6, .ref 100], (SS b c), Y, J, 0, 0)) rfl trivial ?_
        refine r_callV okX12_readAny okX12_isWord [.int 6] [] 100 rfl rfl rfl kkX12_isWord rfl rfl (by decide) rfl rfl rfl (by decide) ⟨Nat.le_refl _, Nat.le_refl _⟩ (Nat.le_of_ble_eq_true rfl) (c_isWord1 γ hP 6 (by decide) rfl k6) (fun v1 S1 I1 J1 hp => ?_)
        obtain ⟨rfl, rfl, rfl, rfl⟩ := hp
        show Rj _ _ _ _ _ _ (19, [some (.ref 100), some (.int (nI bk)), some (.int 1), none], [.int 1], (SS b c), Y, J, 0, 0)
        refine r_run okX12_readAny 2 (cs := []) (σ' := (21, [some (.ref 100), some (.int (nI bk)), some (.int 1), some (.int 1)], [.int 1], (SS b c), Y, J, 0, 0)) rfl trivial ?_
        refine r_ifc okX12_readAny rfl (fun (h21 : ¬ (1 : Int32) = (0 : Int32)) => ?_) (fun h210 => ?_)
        · refine r_run okX12_readAny 3 (cs := []) (σ' := (39, [some (.ref 100), some (.int (nI bk)), some (.int 1), some (.int 1)], [.int 8, .int (Y 100 37)], (SS b c), Y, J, 0, 0)) rfl trivial ?_
          simp only [hq]
          show Rj _ _ _ _ _ _ (39, [some (.ref 100), some (.int (nI bk)), some (.int 1), some (.int 1)], [.int 8, .int (nI q0)], (SS b c), Y, J, 0, 0)
          refine r_icmp okX12_readAny rfl (fun (h39 : ¬ (nI q0) = (8 : Int32)) => ?_) (fun h390 => ?_)
          · exact absurd (show nI q0 = 8 by rw [show q0 = 8 by omega]; rfl) h39
          · have h39 : (nI q0) = (8 : Int32) := Classical.not_not.mp h390
            refine r_run okX12_readAny 2 (cs := []) (σ' := (44, [some (.ref 100), some (.int (nI bk)), some (.int 1), some (.int 1)], [.int 3, .ref 100], (SS b c), Y, J, 0, 0)) rfl trivial ?_
            refine r_callV okX12_readAny okX12_fails [.int 3] [] 100 rfl rfl rfl kkX12_fails rfl rfl (by decide) rfl rfl rfl (by decide) ⟨Nat.le_refl _, Nat.le_refl _⟩ (Nat.le_of_ble_eq_true rfl) (c_fails γ 3) (fun v1 S1 I1 J1 hp => ?_)
            obtain ⟨rfl, rfl, ⟨X1, rfl, f1, e1, e2⟩, rfl⟩ := hp
            show Rj _ _ _ _ _ _ (47, [some (.ref 100), some (.int (nI bk)), some (.int 1), some (.int 1)], [.int (-1)], (SS b c), X1, J, 0, 0)
            refine r_iret okX12_readAny rfl rfl rfl (Nat.le_refl _) (Nat.le_refl _) ?_
            exact KF (3, i) X1 hd (fr_t hf (fF_P f1)) e1 (e2.trans hP.2.2.2.2.2.1)
        · have h21 : (1 : Int32) = (0 : Int32) := Classical.not_not.mp h210
          exact absurd h21 (by decide)
    · by_cases k40 : kK T n i = 40
      · rw [if_pos (Or.inr k40)] at hd
        refine r_run okX12_readAny 1 (cs := []) (σ' := (10, [some (.ref 100), some (.int (nI bk)), some (.int 1), none], [.int 1], (SS b c), Y, J, 0, 0)) rfl trivial ?_
        refine r_ifc okX12_readAny rfl (fun (h10 : (1 : Int32) = (0 : Int32)) => ?_) (fun (h10 : ¬ (1 : Int32) = (0 : Int32)) => ?_)
        · exact absurd h10 (by decide)
        · refine r_run okX12_readAny 2 (cs := []) (σ' := (16, [some (.ref 100), some (.int (nI bk)), some (.int 1), none], [.int 6, .ref 100], (SS b c), Y, J, 0, 0)) rfl trivial ?_
          refine r_callV okX12_readAny okX12_isWord [.int 6] [] 100 rfl rfl rfl kkX12_isWord rfl rfl (by decide) rfl rfl rfl (by decide) ⟨Nat.le_refl _, Nat.le_refl _⟩ (Nat.le_of_ble_eq_true rfl) (c_isWord0 γ hP 6 (by decide) rfl k6) (fun v1 S1 I1 J1 hp => ?_)
          obtain ⟨rfl, rfl, rfl, rfl⟩ := hp
          show Rj _ _ _ _ _ _ (19, [some (.ref 100), some (.int (nI bk)), some (.int 1), none], [.int 0], (SS b c), Y, J, 0, 0)
          refine r_run okX12_readAny 2 (cs := []) (σ' := (21, [some (.ref 100), some (.int (nI bk)), some (.int 1), some (.int 0)], [.int 0], (SS b c), Y, J, 0, 0)) rfl trivial ?_
          refine r_ifc okX12_readAny rfl (fun (h21 : ¬ (0 : Int32) = (0 : Int32)) => ?_) (fun h210 => ?_)
          · exact absurd h21 (by decide)
          · have h21 : (0 : Int32) = (0 : Int32) := Classical.not_not.mp h210
            refine r_run okX12_readAny 2 (cs := []) (σ' := (27, [some (.ref 100), some (.int (nI bk)), some (.int 1), some (.int 0)], [.int 40, .ref 100], (SS b c), Y, J, 0, 0)) rfl trivial ?_
            refine r_callV okX12_readAny okX12_isSign [.int 40] [] 100 rfl rfl rfl kkX12_isSign rfl rfl (by decide) rfl rfl rfl (by decide) ⟨Nat.le_refl _, Nat.le_refl _⟩ (Nat.le_of_ble_eq_true rfl) (c_isSign1 γ hP 40 rfl k40) (fun v1 S1 I1 J1 hp => ?_)
            obtain ⟨rfl, rfl, rfl, rfl⟩ := hp
            show Rj _ _ _ _ _ _ (30, [some (.ref 100), some (.int (nI bk)), some (.int 1), some (.int 0)], [.int 1], (SS b c), Y, J, 0, 0)
            refine r_ifc okX12_readAny rfl (fun (h30 : (1 : Int32) = (0 : Int32)) => ?_) (fun (h30 : ¬ (1 : Int32) = (0 : Int32)) => ?_)
            · exact absurd h30 (by decide)
            · refine r_run okX12_readAny 3 (cs := []) (σ' := (39, [some (.ref 100), some (.int (nI bk)), some (.int 1), some (.int 0)], [.int 8, .int (Y 100 37)], (SS b c), Y, J, 0, 0)) rfl trivial ?_
              simp only [hq]
              show Rj _ _ _ _ _ _ (39, [some (.ref 100), some (.int (nI bk)), some (.int 1), some (.int 0)], [.int 8, .int (nI q0)], (SS b c), Y, J, 0, 0)
              refine r_icmp okX12_readAny rfl (fun (h39 : ¬ (nI q0) = (8 : Int32)) => ?_) (fun h390 => ?_)
              · exact absurd (show nI q0 = 8 by rw [show q0 = 8 by omega]; rfl) h39
              · have h39 : (nI q0) = (8 : Int32) := Classical.not_not.mp h390
                refine r_run okX12_readAny 2 (cs := []) (σ' := (44, [some (.ref 100), some (.int (nI bk)), some (.int 1), some (.int 0)], [.int 3, .ref 100], (SS b c), Y, J, 0, 0)) rfl trivial ?_
                refine r_callV okX12_readAny okX12_fails [.int 3] [] 100 rfl rfl rfl kkX12_fails rfl rfl (by decide) rfl rfl rfl (by decide) ⟨Nat.le_refl _, Nat.le_refl _⟩ (Nat.le_of_ble_eq_true rfl) (c_fails γ 3) (fun v1 S1 I1 J1 hp => ?_)
                obtain ⟨rfl, rfl, ⟨X1, rfl, f1, e1, e2⟩, rfl⟩ := hp
                show Rj _ _ _ _ _ _ (47, [some (.ref 100), some (.int (nI bk)), some (.int 1), some (.int 0)], [.int (-1)], (SS b c), X1, J, 0, 0)
                refine r_iret okX12_readAny rfl rfl rfl (Nat.le_refl _) (Nat.le_refl _) ?_
                exact KF (3, i) X1 hd (fr_t hf (fF_P f1)) e1 (e2.trans hP.2.2.2.2.2.1)
      · rw [if_neg (fun q => q.elim k6 k40)] at hd
        cases res with
        | inl e =>
          refine r_run okX12_readAny 1 (cs := []) (σ' := (10, [some (.ref 100), some (.int (nI bk)), some (.int 1), none], [.int 1], (SS b c), Y, J, 0, 0)) rfl trivial ?_
          refine r_ifc okX12_readAny rfl (fun (h10 : (1 : Int32) = (0 : Int32)) => ?_) (fun (h10 : ¬ (1 : Int32) = (0 : Int32)) => ?_)
          · exact absurd h10 (by decide)
          · refine r_run okX12_readAny 2 (cs := []) (σ' := (16, [some (.ref 100), some (.int (nI bk)), some (.int 1), none], [.int 6, .ref 100], (SS b c), Y, J, 0, 0)) rfl trivial ?_
            refine r_callV okX12_readAny okX12_isWord [.int 6] [] 100 rfl rfl rfl kkX12_isWord rfl rfl (by decide) rfl rfl rfl (by decide) ⟨Nat.le_refl _, Nat.le_refl _⟩ (Nat.le_of_ble_eq_true rfl) (c_isWord0 γ hP 6 (by decide) rfl k6) (fun v1 S1 I1 J1 hp => ?_)
            obtain ⟨rfl, rfl, rfl, rfl⟩ := hp
            show Rj _ _ _ _ _ _ (19, [some (.ref 100), some (.int (nI bk)), some (.int 1), none], [.int 0], (SS b c), Y, J, 0, 0)
            refine r_run okX12_readAny 2 (cs := []) (σ' := (21, [some (.ref 100), some (.int (nI bk)), some (.int 1), some (.int 0)], [.int 0], (SS b c), Y, J, 0, 0)) rfl trivial ?_
            refine r_ifc okX12_readAny rfl (fun (h21 : ¬ (0 : Int32) = (0 : Int32)) => ?_) (fun h210 => ?_)
            · exact absurd h21 (by decide)
            · have h21 : (0 : Int32) = (0 : Int32) := Classical.not_not.mp h210
              refine r_run okX12_readAny 2 (cs := []) (σ' := (27, [some (.ref 100), some (.int (nI bk)), some (.int 1), some (.int 0)], [.int 40, .ref 100], (SS b c), Y, J, 0, 0)) rfl trivial ?_
              refine r_callV okX12_readAny okX12_isSign [.int 40] [] 100 rfl rfl rfl kkX12_isSign rfl rfl (by decide) rfl rfl rfl (by decide) ⟨Nat.le_refl _, Nat.le_refl _⟩ (Nat.le_of_ble_eq_true rfl) (c_isSign0 γ hP 40 rfl k40) (fun v1 S1 I1 J1 hp => ?_)
              obtain ⟨rfl, rfl, rfl, rfl⟩ := hp
              show Rj _ _ _ _ _ _ (30, [some (.ref 100), some (.int (nI bk)), some (.int 1), some (.int 0)], [.int 0], (SS b c), Y, J, 0, 0)
              refine r_ifc okX12_readAny rfl (fun (h30 : (0 : Int32) = (0 : Int32)) => ?_) (fun (h30 : ¬ (0 : Int32) = (0 : Int32)) => ?_)
              · refine r_run okX12_readAny 1 (cs := []) (σ' := (89, [some (.ref 100), some (.int (nI bk)), some (.int 1), some (.int 0)], [.ref 100], (SS b c), Y, J, 0, 0)) rfl trivial ?_
                refine r_callV okX12_readAny okX12_readCompared [] [] 100 rfl rfl rfl kkX12_readCompared rfl rfl (by decide) rfl rfl rfl (by decide) ⟨Nat.le_refl _, Nat.le_refl _⟩ (Nat.le_of_ble_eq_true rfl) (ct_F γ rfl (c_readCompared γ hT hP hO (by omega) (.inl e) hd)) (fun v1 S1 I1 J1 hp => ?_)
                obtain ⟨rfl, rfl, ⟨X1, rfl, f1, e1, e2⟩, rfl⟩ := hp
                show Rj _ _ _ _ _ _ (92, [some (.ref 100), some (.int (nI bk)), some (.int 1), some (.int 0)], [.int (-1)], (SS b c), X1, J, 0, 0)
                refine r_run okX12_readAny 1 (cs := []) (σ' := (93, [some (.ref 100), some (.int (nI bk)), some (.int 1), some (.int 0)], [.int (-1), .int (-1)], (SS b c), X1, J, 0, 0)) rfl trivial ?_
                refine r_icmp okX12_readAny rfl (fun (h93 : ¬ ((-1) : Int32) = ((-1) : Int32)) => ?_) (fun h930 => ?_)
                · exact absurd h93 (by decide)
                · have h93 : ((-1) : Int32) = ((-1) : Int32) := Classical.not_not.mp h930
                  refine r_run okX12_readAny 1 (cs := []) (σ' := (97, [some (.ref 100), some (.int (nI bk)), some (.int 1), some (.int 0)], [.int (-1)], (SS b c), X1, J, 0, 0)) rfl trivial ?_
                  refine r_iret okX12_readAny rfl rfl rfl (Nat.le_refl _) (Nat.le_refl _) ?_
                  exact KF e X1 rfl (fr_t hf f1) e1 e2
              · exact absurd h30 (by decide)
        | inr q =>
          refine r_run okX12_readAny 1 (cs := []) (σ' := (10, [some (.ref 100), some (.int (nI bk)), some (.int 1), none], [.int 1], (SS b c), Y, J, 0, 0)) rfl trivial ?_
          refine r_ifc okX12_readAny rfl (fun (h10 : (1 : Int32) = (0 : Int32)) => ?_) (fun (h10 : ¬ (1 : Int32) = (0 : Int32)) => ?_)
          · exact absurd h10 (by decide)
          · refine r_run okX12_readAny 2 (cs := []) (σ' := (16, [some (.ref 100), some (.int (nI bk)), some (.int 1), none], [.int 6, .ref 100], (SS b c), Y, J, 0, 0)) rfl trivial ?_
            refine r_callV okX12_readAny okX12_isWord [.int 6] [] 100 rfl rfl rfl kkX12_isWord rfl rfl (by decide) rfl rfl rfl (by decide) ⟨Nat.le_refl _, Nat.le_refl _⟩ (Nat.le_of_ble_eq_true rfl) (c_isWord0 γ hP 6 (by decide) rfl k6) (fun v1 S1 I1 J1 hp => ?_)
            obtain ⟨rfl, rfl, rfl, rfl⟩ := hp
            show Rj _ _ _ _ _ _ (19, [some (.ref 100), some (.int (nI bk)), some (.int 1), none], [.int 0], (SS b c), Y, J, 0, 0)
            refine r_run okX12_readAny 2 (cs := []) (σ' := (21, [some (.ref 100), some (.int (nI bk)), some (.int 1), some (.int 0)], [.int 0], (SS b c), Y, J, 0, 0)) rfl trivial ?_
            refine r_ifc okX12_readAny rfl (fun (h21 : ¬ (0 : Int32) = (0 : Int32)) => ?_) (fun h210 => ?_)
            · exact absurd h21 (by decide)
            · have h21 : (0 : Int32) = (0 : Int32) := Classical.not_not.mp h210
              refine r_run okX12_readAny 2 (cs := []) (σ' := (27, [some (.ref 100), some (.int (nI bk)), some (.int 1), some (.int 0)], [.int 40, .ref 100], (SS b c), Y, J, 0, 0)) rfl trivial ?_
              refine r_callV okX12_readAny okX12_isSign [.int 40] [] 100 rfl rfl rfl kkX12_isSign rfl rfl (by decide) rfl rfl rfl (by decide) ⟨Nat.le_refl _, Nat.le_refl _⟩ (Nat.le_of_ble_eq_true rfl) (c_isSign0 γ hP 40 rfl k40) (fun v1 S1 I1 J1 hp => ?_)
              obtain ⟨rfl, rfl, rfl, rfl⟩ := hp
              show Rj _ _ _ _ _ _ (30, [some (.ref 100), some (.int (nI bk)), some (.int 1), some (.int 0)], [.int 0], (SS b c), Y, J, 0, 0)
              refine r_ifc okX12_readAny rfl (fun (h30 : (0 : Int32) = (0 : Int32)) => ?_) (fun (h30 : ¬ (0 : Int32) = (0 : Int32)) => ?_)
              · refine r_run okX12_readAny 1 (cs := []) (σ' := (89, [some (.ref 100), some (.int (nI bk)), some (.int 1), some (.int 0)], [.ref 100], (SS b c), Y, J, 0, 0)) rfl trivial ?_
                refine r_callV okX12_readAny okX12_readCompared [] [] 100 rfl rfl rfl kkX12_readCompared rfl rfl (by decide) rfl rfl rfl (by decide) ⟨Nat.le_refl _, Nat.le_refl _⟩ (Nat.le_of_ble_eq_true rfl) (ct_S γ rfl (c_readCompared γ hT hP hO (by omega) (.inr q) hd)) (fun v1 S1 I1 J1 hp => ?_)
                obtain ⟨rfl, rfl, ⟨X1, rfl, f1, p1, o1, k1⟩, rfl⟩ := hp
                have hql := Cm_len hd
                have h1i := p1.2.2.2.1
                show Rj _ _ _ _ _ _ (92, [some (.ref 100), some (.int (nI bk)), some (.int 1), some (.int 0)], [.int 0], (SS b c), X1, J, 0, 0)
                refine r_run okX12_readAny 1 (cs := []) (σ' := (93, [some (.ref 100), some (.int (nI bk)), some (.int 1), some (.int 0)], [.int (-1), .int 0], (SS b c), X1, J, 0, 0)) rfl trivial ?_
                refine r_icmp okX12_readAny rfl (fun (h93 : ¬ (0 : Int32) = ((-1) : Int32)) => ?_) (fun h930 => ?_)
                · refine r_run okX12_readAny 2 (cs := []) (σ' := (101, [some (.ref 100), some (.int (nI bk)), some (.int 1), some (.int 0)], [.int 9, .ref 100], (SS b c), X1, J, 0, 0)) rfl trivial ?_
                  refine r_callV okX12_readAny okX12_settles [.int 9] [] 100 rfl rfl rfl kkX12_settles rfl rfl (by decide) rfl rfl rfl (by decide) ⟨Nat.le_refl _, Nat.le_refl _⟩ (Nat.le_of_ble_eq_true rfl) (c_settles γ 9 k p _ q0 (Pnd_k k1.1 k1.2.1 hPd) hp o1 (by rw [List.length_append]; omega) (by omega) (k1.2.2.trans hq) (fun _ => hk)) (fun v1 S1 I1 J1 hp => ?_)
                  obtain ⟨rfl, rfl, ⟨X2, rfl, s2, pn2, o2, op2⟩, rfl⟩ := hp
                  rw [if_pos rfl] at op2
                  show Rj _ _ _ _ _ _ (104, [some (.ref 100), some (.int (nI bk)), some (.int 1), some (.int 0)], [], (SS b c), X2, J, 0, 0)
                  refine r_run okX12_readAny 3 (cs := []) (σ' := (9, [some (.ref 100), some (.int (nI bk)), some (.int 0), some (.int 0)], [], (SS b c), X2, J, 0, 0)) rfl trivial ?_
                  refine r_weak (L' := [some (.ref 100), some (.int (nI bk)), some (.int 0), none]) ⟨rfl, rfl, rfl, trivial⟩ ?_
                  exact KS q X2 rfl (PSt_S s2 p1) o2 pn2 op2 (fr_t hf (fr_t f1 (fS_P s2)))
                · have h93 : (0 : Int32) = ((-1) : Int32) := Classical.not_not.mp h930
                  exact absurd h93 (by decide)
              · exact absurd h30 (by decide)
  | succ r ih =>
    intro i res hd Y l p k bk q0 hP hO hPd hp hq hq0 hk hl hkl hf KF KS
    have h8 := hT.1
    have hPi := hP.2.2.2.1
    unfold Cn at hd
    by_cases k6 : kK T n i = 6
    · rw [if_pos k6] at hd
      obtain ⟨r1, hc, hc2⟩ := hd
      refine r_run okX12_readAny 1 (cs := []) (σ' := (10, [some (.ref 100), some (.int (nI bk)), some (.int 1), none], [.int 1], (SS b c), Y, J, 0, 0)) rfl trivial ?_
      refine r_ifc okX12_readAny rfl (fun (h10 : (1 : Int32) = (0 : Int32)) => ?_) (fun (h10 : ¬ (1 : Int32) = (0 : Int32)) => ?_)
      · exact absurd h10 (by decide)
      · refine r_run okX12_readAny 2 (cs := []) (σ' := (16, [some (.ref 100), some (.int (nI bk)), some (.int 1), none], [.int 6, .ref 100], (SS b c), Y, J, 0, 0)) rfl trivial ?_
        refine r_callV okX12_readAny okX12_isWord [.int 6] [] 100 rfl rfl rfl kkX12_isWord rfl rfl (by decide) rfl rfl rfl (by decide) ⟨Nat.le_refl _, Nat.le_refl _⟩ (Nat.le_of_ble_eq_true rfl) (c_isWord1 γ hP 6 (by decide) rfl k6) (fun v1 S1 I1 J1 hp => ?_)
        obtain ⟨rfl, rfl, rfl, rfl⟩ := hp
        show Rj _ _ _ _ _ _ (19, [some (.ref 100), some (.int (nI bk)), some (.int 1), none], [.int 1], (SS b c), Y, J, 0, 0)
        refine r_run okX12_readAny 2 (cs := []) (σ' := (21, [some (.ref 100), some (.int (nI bk)), some (.int 1), some (.int 1)], [.int 1], (SS b c), Y, J, 0, 0)) rfl trivial ?_
        refine r_ifc okX12_readAny rfl (fun (h21 : ¬ (1 : Int32) = (0 : Int32)) => ?_) (fun h210 => ?_)
        · refine r_run okX12_readAny 3 (cs := []) (σ' := (39, [some (.ref 100), some (.int (nI bk)), some (.int 1), some (.int 1)], [.int 8, .int (Y 100 37)], (SS b c), Y, J, 0, 0)) rfl trivial ?_
          simp only [hq]
          show Rj _ _ _ _ _ _ (39, [some (.ref 100), some (.int (nI bk)), some (.int 1), some (.int 1)], [.int 8, .int (nI q0)], (SS b c), Y, J, 0, 0)
          refine r_icmp okX12_readAny rfl (fun (h39 : ¬ (nI q0) = (8 : Int32)) => ?_) (fun h390 => ?_)
          · refine r_run okX12_readAny 7 (cs := []) (σ' := (59, [some (.ref 100), some (.int (nI bk)), some (.int 1), some (.int 1)], [.int 1], (SS b c), (upI Y 100 37 ((Y 100 37) + 1)), J, 0, 0)) rfl trivial ?_
            simp only [hq]
            show Rj _ _ _ _ _ _ (59, [some (.ref 100), some (.int (nI bk)), some (.int 1), some (.int 1)], [.int 1], (SS b c), (upI Y 100 37 ((nI q0) + 1)), J, 0, 0)
            refine r_ifc okX12_readAny rfl (fun (h59 : ¬ (1 : Int32) = (0 : Int32)) => ?_) (fun h590 => ?_)
            · refine r_run okX12_readAny 2 (cs := []) (σ' := (68, [some (.ref 100), some (.int (nI bk)), some (.int 1), some (.int 1)], [.int 1, .ref 100], (SS b c), (upI Y 100 37 ((nI q0) + 1)), J, 0, 0)) rfl trivial ?_
              refine r_ifc okX12_readAny rfl (fun (h68 : (1 : Int32) = (0 : Int32)) => ?_) (fun (h68 : ¬ (1 : Int32) = (0 : Int32)) => ?_)
              · exact absurd h68 (by decide)
              · refine r_run okX12_readAny 2 (cs := []) (σ' := (78, [some (.ref 100), some (.int (nI bk)), some (.int 1), some (.int 1)], [.int 9, .ref 100], (SS b c), (upI Y 100 37 ((nI q0) + 1)), J, 0, 0)) rfl trivial ?_
                refine r_callV okX12_readAny okX12_waits [.int 9] [] 100 rfl rfl rfl kkX12_waits rfl rfl (by decide) rfl rfl rfl (by decide) ⟨Nat.le_refl _, Nat.le_refl _⟩ (Nat.le_of_ble_eq_true rfl) (c_waits γ (X := upI Y 100 37 (nI q0 + 1)) _ (Pnd_k rfl rfl hPd) (by rw [List.length_append, List.length_replicate]; omega) 9) (fun v1 S1 I1 J1 hp => ?_)
                obtain ⟨rfl, rfl, ⟨X1, rfl, f1, pn1, op1⟩, rfl⟩ := hp
                show Rj _ _ _ _ _ _ (81, [some (.ref 100), some (.int (nI bk)), some (.int 1), some (.int 1)], [], (SS b c), X1, J, 0, 0)
                refine r_run okX12_readAny 1 (cs := []) (σ' := (82, [some (.ref 100), some (.int (nI bk)), some (.int 1), some (.int 1)], [.ref 100], (SS b c), X1, J, 0, 0)) rfl trivial ?_
                refine r_callV okX12_readAny okX12_next [] [] 100 rfl rfl rfl kkX12_next rfl rfl (by decide) rfl rfl rfl (by decide) ⟨Nat.le_refl _, Nat.le_refl _⟩ (Nat.le_of_ble_eq_true rfl) (c_nextT γ hT (PSt_O (fr_t (up_O (Or.inl rfl)) f1) hP) (by rw [k6]; decide)) (fun v1 S1 I1 J1 hp => ?_)
                obtain ⟨rfl, rfl, ⟨X2, rfl, f2, p2⟩, rfl⟩ := hp
                show Rj _ _ _ _ _ _ (85, [some (.ref 100), some (.int (nI bk)), some (.int 1), some (.int 1)], [], (SS b c), X2, J, 0, 0)
                refine r_run okX12_readAny 1 (cs := []) (σ' := (9, [some (.ref 100), some (.int (nI bk)), some (.int 1), some (.int 1)], [], (SS b c), X2, J, 0, 0)) rfl trivial ?_
                refine r_weak (L' := [some (.ref 100), some (.int (nI bk)), some (.int 1), none]) ⟨rfl, rfl, rfl, trivial⟩ ?_
                have o2 : Out X2 l := Out_4 f2 (Out_O (fr_t (up_O (Or.inl rfl)) f1) hO)
                have pn2 : Pnd X2 (List.replicate (k + 1) 9 ++ p) := Pnd_k (kp_4 f2).1 (kp_4 f2).2.1 pn1
                have op2 : X2 100 37 = nI (q0 + 1) := ((kp_4 f2).2.2.trans op1).trans (by show nI q0 + 1 = _; rw [nI_eq1])
                refine ih (i + 1) r1 hc X2 l p (k + 1) bk (q0 + 1) p2 o2 pn2 hp op2 (by omega) (by omega) (by omega) (by omega) (fr_t hf (fr_t (fO_P (fr_t (up_O (Or.inl rfl)) f1)) (f4_P f2))) ?_ ?_
                · intro e X' he h1 h2 h3
                  rcases hc2 with ⟨e', e1, e2⟩ | ⟨q, e1, e2⟩
                  · rw [he] at e1; cases e1; exact KF e X' e2 h1 h2 h3
                  · rw [he] at e1; cases e1
                · intro q Z he hz1 hz2 hz3 hz4 hz5
                  rcases hc2 with ⟨e', e1, e2⟩ | ⟨q', e1, e2⟩
                  · rw [he] at e1; cases e1
                  · rw [he] at e1; cases e1
                    refine KS _ Z e2 hz1 ?_ hz3 (by rw [hz4, Nat.add_sub_add_right]) hz5
                    rw [flt_app, ← List.append_assoc, List.append_assoc (l ++ flt q.1), show flt [((9 : Int32), (0 : Int32))] ++ List.replicate k ((9 : Int32), (0 : Int32)) = List.replicate (k + 1) (9, 0) from rfl]
                    exact hz2
            · have h59 : (1 : Int32) = (0 : Int32) := Classical.not_not.mp h590
              exact absurd h59 (by decide)
          · have h39 : (nI q0) = (8 : Int32) := Classical.not_not.mp h390
            exact absurd (nI_inj (a := q0) (b := 8) (by omega) (by decide) h39) (by omega)
        · have h21 : (1 : Int32) = (0 : Int32) := Classical.not_not.mp h210
          exact absurd h21 (by decide)
    · rw [if_neg k6] at hd
      by_cases k40 : kK T n i = 40
      · rw [if_pos k40] at hd
        obtain ⟨r1, hc, hc2⟩ := hd
        refine r_run okX12_readAny 1 (cs := []) (σ' := (10, [some (.ref 100), some (.int (nI bk)), some (.int 1), none], [.int 1], (SS b c), Y, J, 0, 0)) rfl trivial ?_
        refine r_ifc okX12_readAny rfl (fun (h10 : (1 : Int32) = (0 : Int32)) => ?_) (fun (h10 : ¬ (1 : Int32) = (0 : Int32)) => ?_)
        · exact absurd h10 (by decide)
        · refine r_run okX12_readAny 2 (cs := []) (σ' := (16, [some (.ref 100), some (.int (nI bk)), some (.int 1), none], [.int 6, .ref 100], (SS b c), Y, J, 0, 0)) rfl trivial ?_
          refine r_callV okX12_readAny okX12_isWord [.int 6] [] 100 rfl rfl rfl kkX12_isWord rfl rfl (by decide) rfl rfl rfl (by decide) ⟨Nat.le_refl _, Nat.le_refl _⟩ (Nat.le_of_ble_eq_true rfl) (c_isWord0 γ hP 6 (by decide) rfl k6) (fun v1 S1 I1 J1 hp => ?_)
          obtain ⟨rfl, rfl, rfl, rfl⟩ := hp
          show Rj _ _ _ _ _ _ (19, [some (.ref 100), some (.int (nI bk)), some (.int 1), none], [.int 0], (SS b c), Y, J, 0, 0)
          refine r_run okX12_readAny 2 (cs := []) (σ' := (21, [some (.ref 100), some (.int (nI bk)), some (.int 1), some (.int 0)], [.int 0], (SS b c), Y, J, 0, 0)) rfl trivial ?_
          refine r_ifc okX12_readAny rfl (fun (h21 : ¬ (0 : Int32) = (0 : Int32)) => ?_) (fun h210 => ?_)
          · exact absurd h21 (by decide)
          · have h21 : (0 : Int32) = (0 : Int32) := Classical.not_not.mp h210
            refine r_run okX12_readAny 2 (cs := []) (σ' := (27, [some (.ref 100), some (.int (nI bk)), some (.int 1), some (.int 0)], [.int 40, .ref 100], (SS b c), Y, J, 0, 0)) rfl trivial ?_
            refine r_callV okX12_readAny okX12_isSign [.int 40] [] 100 rfl rfl rfl kkX12_isSign rfl rfl (by decide) rfl rfl rfl (by decide) ⟨Nat.le_refl _, Nat.le_refl _⟩ (Nat.le_of_ble_eq_true rfl) (c_isSign1 γ hP 40 rfl k40) (fun v1 S1 I1 J1 hp => ?_)
            obtain ⟨rfl, rfl, rfl, rfl⟩ := hp
            show Rj _ _ _ _ _ _ (30, [some (.ref 100), some (.int (nI bk)), some (.int 1), some (.int 0)], [.int 1], (SS b c), Y, J, 0, 0)
            refine r_ifc okX12_readAny rfl (fun (h30 : (1 : Int32) = (0 : Int32)) => ?_) (fun (h30 : ¬ (1 : Int32) = (0 : Int32)) => ?_)
            · exact absurd h30 (by decide)
            · refine r_run okX12_readAny 3 (cs := []) (σ' := (39, [some (.ref 100), some (.int (nI bk)), some (.int 1), some (.int 0)], [.int 8, .int (Y 100 37)], (SS b c), Y, J, 0, 0)) rfl trivial ?_
              simp only [hq]
              show Rj _ _ _ _ _ _ (39, [some (.ref 100), some (.int (nI bk)), some (.int 1), some (.int 0)], [.int 8, .int (nI q0)], (SS b c), Y, J, 0, 0)
              refine r_icmp okX12_readAny rfl (fun (h39 : ¬ (nI q0) = (8 : Int32)) => ?_) (fun h390 => ?_)
              · refine r_run okX12_readAny 7 (cs := []) (σ' := (59, [some (.ref 100), some (.int (nI bk)), some (.int 1), some (.int 0)], [.int 0], (SS b c), (upI Y 100 37 ((Y 100 37) + 1)), J, 0, 0)) rfl trivial ?_
                simp only [hq]
                show Rj _ _ _ _ _ _ (59, [some (.ref 100), some (.int (nI bk)), some (.int 1), some (.int 0)], [.int 0], (SS b c), (upI Y 100 37 ((nI q0) + 1)), J, 0, 0)
                refine r_ifc okX12_readAny rfl (fun (h59 : ¬ (0 : Int32) = (0 : Int32)) => ?_) (fun h590 => ?_)
                · exact absurd h59 (by decide)
                · have h59 : (0 : Int32) = (0 : Int32) := Classical.not_not.mp h590
                  refine r_run okX12_readAny 6 (cs := []) (σ' := (68, [some (.ref 100), some (.int ((nI bk) + 1)), some (.int 1), some (.int 0)], [.int 0, .ref 100], (SS b c), (upI Y 100 37 ((nI q0) + 1)), J, 0, 0)) rfl trivial ?_
                  refine r_ifc okX12_readAny rfl (fun (h68 : (0 : Int32) = (0 : Int32)) => ?_) (fun (h68 : ¬ (0 : Int32) = (0 : Int32)) => ?_)
                  · refine r_run okX12_readAny 1 (cs := []) (σ' := (78, [some (.ref 100), some (.int ((nI bk) + 1)), some (.int 1), some (.int 0)], [.int 12, .ref 100], (SS b c), (upI Y 100 37 ((nI q0) + 1)), J, 0, 0)) rfl trivial ?_
                    refine r_callV okX12_readAny okX12_waits [.int 12] [] 100 rfl rfl rfl kkX12_waits rfl rfl (by decide) rfl rfl rfl (by decide) ⟨Nat.le_refl _, Nat.le_refl _⟩ (Nat.le_of_ble_eq_true rfl) (c_waits γ (X := upI Y 100 37 (nI q0 + 1)) _ (Pnd_k rfl rfl hPd) (by rw [List.length_append, List.length_replicate]; omega) 12) (fun v1 S1 I1 J1 hp => ?_)
                    obtain ⟨rfl, rfl, ⟨X1, rfl, f1, pn1, op1⟩, rfl⟩ := hp
                    show Rj _ _ _ _ _ _ (81, [some (.ref 100), some (.int ((nI bk) + 1)), some (.int 1), some (.int 0)], [], (SS b c), X1, J, 0, 0)
                    refine r_run okX12_readAny 1 (cs := []) (σ' := (82, [some (.ref 100), some (.int ((nI bk) + 1)), some (.int 1), some (.int 0)], [.ref 100], (SS b c), X1, J, 0, 0)) rfl trivial ?_
                    refine r_callV okX12_readAny okX12_next [] [] 100 rfl rfl rfl kkX12_next rfl rfl (by decide) rfl rfl rfl (by decide) ⟨Nat.le_refl _, Nat.le_refl _⟩ (Nat.le_of_ble_eq_true rfl) (c_nextT γ hT (PSt_O (fr_t (up_O (Or.inl rfl)) f1) hP) (by rw [k40]; decide)) (fun v1 S1 I1 J1 hp => ?_)
                    obtain ⟨rfl, rfl, ⟨X2, rfl, f2, p2⟩, rfl⟩ := hp
                    show Rj _ _ _ _ _ _ (85, [some (.ref 100), some (.int ((nI bk) + 1)), some (.int 1), some (.int 0)], [], (SS b c), X2, J, 0, 0)
                    refine r_run okX12_readAny 1 (cs := []) (σ' := (9, [some (.ref 100), some (.int ((nI bk) + 1)), some (.int 1), some (.int 0)], [], (SS b c), X2, J, 0, 0)) rfl trivial ?_
                    rw [nI_eq1]
                    refine r_weak (L' := [some (.ref 100), some (.int (nI (bk + 1))), some (.int 1), none]) ⟨rfl, rfl, rfl, trivial⟩ ?_
                    have o2 : Out X2 l := Out_4 f2 (Out_O (fr_t (up_O (Or.inl rfl)) f1) hO)
                    have pn2 : Pnd X2 (12 :: (List.replicate k 9 ++ p)) := Pnd_k (kp_4 f2).1 (kp_4 f2).2.1 pn1
                    have op2 : X2 100 37 = nI (q0 + 1) := ((kp_4 f2).2.2.trans op1).trans (by show nI q0 + 1 = _; rw [nI_eq1])
                    refine AnL_of γ b c J T n X Post hT r ih (i + 1) r1 hc X2 l (12 :: (List.replicate k 9 ++ p)) (bk + 1) (q0 + 1) p2 o2 pn2 (fun x s e => by injection e with e1 _; subst e1; decide) op2 (by omega) (by rw [List.length_cons, List.length_append, List.length_replicate]; omega) (by rw [List.length_cons, List.length_append, List.length_replicate]; omega) (fr_t hf (fr_t (fO_P (fr_t (up_O (Or.inl rfl)) f1)) (f4_P f2))) ?_ ?_
                    · intro e X' he h1 h2 h3
                      rcases hc2 with ⟨e', e1, e2⟩ | ⟨q, e1, e2⟩
                      · rw [he] at e1; cases e1; exact KF e X' e2 h1 h2 h3
                      · rw [he] at e1; cases e1
                    · intro q Z he hz1 hz2 hz3 hz4 hz5
                      rcases hc2 with ⟨e', e1, e2⟩ | ⟨q', e1, e2⟩
                      · rw [he] at e1; cases e1
                      · rw [he] at e1; cases e1
                        have hql := An_len (fun i q => Cn_len) (he ▸ hc)
                        have hqi := hz1.2.2.2.1
                        have e39 : Z 100 39 - 1 = nI (List.replicate k 9 ++ p).length := by rw [hz3.1]; exact nI_pred _
                        have e37 : Z 100 37 - 1 = nI q0 := by rw [hz4]; exact nI_pred _
                        have ebk : nI (bk + 1) - 1 = nI bk := nI_pred _
                        have fW : fr qO Z (upI (upI Z 100 39 ((Z 100 39) - 1)) 100 37 ((Z 100 37) - 1)) := fr_t (up_O (Or.inr rfl)) (up_O (Or.inl rfl))
                        have pnW : Pnd (upI (upI Z 100 39 ((Z 100 39) - 1)) 100 37 ((Z 100 37) - 1)) (List.replicate k 9 ++ p) := ⟨(upI_n (by decide)).trans (upI_s.trans e39), (by rw [upI_c (by decide), upI_c (by decide)]; exact hz3.2.2)⟩
                        have oW := Out_O fW hz2
                        have opW : (upI (upI Z 100 39 ((Z 100 39) - 1)) 100 37 ((Z 100 37) - 1)) 100 37 = nI q0 := upI_s.trans e37
                        rcases e2 with ⟨k41, e2'⟩ | ⟨k41, e2'⟩
                        · refine r_run okX12_readAny 1 (cs := []) (σ' := (186, [some (.ref 100), some (.int (nI (bk + 1))), some (.int 0), none], [.int (nI (bk + 1))], (SS b c), Z, J, 0, 0)) rfl trivial ?_
                          refine r_ifc okX12_readAny rfl (fun (h186 : ¬ (nI (bk + 1)) = (0 : Int32)) => ?_) (fun h1860 => ?_)
                          · refine r_run okX12_readAny 2 (cs := []) (σ' := (194, [some (.ref 100), some (.int (nI (bk + 1))), some (.int 0), none], [.int 41, .ref 100], (SS b c), Z, J, 0, 0)) rfl trivial ?_
                            refine r_callV okX12_readAny okX12_isSign [.int 41] [] 100 rfl rfl rfl kkX12_isSign rfl rfl (by decide) rfl rfl rfl (by decide) ⟨Nat.le_refl _, Nat.le_refl _⟩ (Nat.le_of_ble_eq_true rfl) (c_isSign1 γ hz1 41 rfl k41) (fun v1 S1 I1 J1 hp => ?_)
                            obtain ⟨rfl, rfl, rfl, rfl⟩ := hp
                            show Rj _ _ _ _ _ _ (197, [some (.ref 100), some (.int (nI (bk + 1))), some (.int 0), none], [.int 1], (SS b c), Z, J, 0, 0)
                            refine r_ifc okX12_readAny rfl (fun (h197 : ¬ (1 : Int32) = (0 : Int32)) => ?_) (fun h1970 => ?_)
                            · refine r_run okX12_readAny 18 (cs := []) (σ' := (233, [some (.ref 100), some (.int ((nI (bk + 1)) - 1)), some (.int 0), none], [.int 9, .ref 100], (SS b c), (upI (upI Z 100 39 ((Z 100 39) - 1)) 100 37 ((Z 100 37) - 1)), J, 0, 0)) rfl trivial ?_
                              rw [ebk]
                              refine r_callV okX12_readAny okX12_settles [.int 9] [] 100 rfl rfl rfl kkX12_settles rfl rfl (by decide) rfl rfl rfl (by decide) ⟨Nat.le_refl _, Nat.le_refl _⟩ (Nat.le_of_ble_eq_true rfl) (c_settles γ 9 k p _ q0 pnW hp oW (by rw [List.length_append]; omega) (by omega) opW (fun _ => hk)) (fun v1 S1 I1 J1 hp => ?_)
                              obtain ⟨rfl, rfl, ⟨X4, rfl, s4, pn4, o4, op4⟩, rfl⟩ := hp
                              rw [if_pos rfl] at op4
                              show Rj _ _ _ _ _ _ (236, [some (.ref 100), some (.int (nI bk)), some (.int 0), none], [], (SS b c), X4, J, 0, 0)
                              refine r_run okX12_readAny 1 (cs := []) (σ' := (237, [some (.ref 100), some (.int (nI bk)), some (.int 0), none], [.ref 100], (SS b c), X4, J, 0, 0)) rfl trivial ?_
                              refine r_callV okX12_readAny okX12_next [] [] 100 rfl rfl rfl kkX12_next rfl rfl (by decide) rfl rfl rfl (by decide) ⟨Nat.le_refl _, Nat.le_refl _⟩ (Nat.le_of_ble_eq_true rfl) (c_nextT γ hT (PSt_S s4 (PSt_O fW hz1)) (by rw [k41]; decide)) (fun v1 S1 I1 J1 hp => ?_)
                              obtain ⟨rfl, rfl, ⟨X5, rfl, f5, p5⟩, rfl⟩ := hp
                              show Rj _ _ _ _ _ _ (240, [some (.ref 100), some (.int (nI bk)), some (.int 0), none], [], (SS b c), X5, J, 0, 0)
                              refine r_run okX12_readAny 1 (cs := []) (σ' := (9, [some (.ref 100), some (.int (nI bk)), some (.int 0), none], [], (SS b c), X5, J, 0, 0)) rfl trivial ?_
                              refine r_weak (L' := [some (.ref 100), some (.int (nI bk)), some (.int 0), none]) ⟨rfl, rfl, rfl, trivial⟩ ?_
                              refine KS (q.1, q.2 + 1) X5 e2' p5 (Out_4 f5 o4) (Pnd_k (kp_4 f5).1 (kp_4 f5).2.1 pn4) ((kp_4 f5).2.2.trans op4) (fr_t hz5 (fr_t (fO_P fW) (fr_t (fS_P s4) (f4_P f5))))
                            · have h197 : (1 : Int32) = (0 : Int32) := Classical.not_not.mp h1970
                              exact absurd h197 (by decide)
                          · have h186 : (nI (bk + 1)) = (0 : Int32) := Classical.not_not.mp h1860
                            exact absurd h186 (by intro z; exact absurd (nI_inj (a := bk + 1) (b := 0) (by omega) (by decide) z) (by omega))
                        · refine r_run okX12_readAny 1 (cs := []) (σ' := (186, [some (.ref 100), some (.int (nI (bk + 1))), some (.int 0), none], [.int (nI (bk + 1))], (SS b c), Z, J, 0, 0)) rfl trivial ?_
                          refine r_ifc okX12_readAny rfl (fun (h186 : ¬ (nI (bk + 1)) = (0 : Int32)) => ?_) (fun h1860 => ?_)
                          · refine r_run okX12_readAny 2 (cs := []) (σ' := (194, [some (.ref 100), some (.int (nI (bk + 1))), some (.int 0), none], [.int 41, .ref 100], (SS b c), Z, J, 0, 0)) rfl trivial ?_
                            refine r_callV okX12_readAny okX12_isSign [.int 41] [] 100 rfl rfl rfl kkX12_isSign rfl rfl (by decide) rfl rfl rfl (by decide) ⟨Nat.le_refl _, Nat.le_refl _⟩ (Nat.le_of_ble_eq_true rfl) (c_isSign0 γ hz1 41 rfl k41) (fun v1 S1 I1 J1 hp => ?_)
                            obtain ⟨rfl, rfl, rfl, rfl⟩ := hp
                            show Rj _ _ _ _ _ _ (197, [some (.ref 100), some (.int (nI (bk + 1))), some (.int 0), none], [.int 0], (SS b c), Z, J, 0, 0)
                            refine r_ifc okX12_readAny rfl (fun (h197 : ¬ (0 : Int32) = (0 : Int32)) => ?_) (fun h1970 => ?_)
                            · exact absurd h197 (by decide)
                            · have h197 : (0 : Int32) = (0 : Int32) := Classical.not_not.mp h1970
                              refine r_run okX12_readAny 2 (cs := []) (σ' := (202, [some (.ref 100), some (.int (nI (bk + 1))), some (.int 0), none], [.int 1, .ref 100], (SS b c), Z, J, 0, 0)) rfl trivial ?_
                              refine r_callV okX12_readAny okX12_fails [.int 1] [] 100 rfl rfl rfl kkX12_fails rfl rfl (by decide) rfl rfl rfl (by decide) ⟨Nat.le_refl _, Nat.le_refl _⟩ (Nat.le_of_ble_eq_true rfl) (c_fails γ 1) (fun v1 S1 I1 J1 hp => ?_)
                              obtain ⟨rfl, rfl, ⟨X4, rfl, f4, e1, e2⟩, rfl⟩ := hp
                              show Rj _ _ _ _ _ _ (205, [some (.ref 100), some (.int (nI (bk + 1))), some (.int 0), none], [.int (-1)], (SS b c), X4, J, 0, 0)
                              refine r_iret okX12_readAny rfl rfl rfl (Nat.le_refl _) (Nat.le_refl _) ?_
                              exact KF (1, q.2) X4 e2' (fr_t hz5 (fF_P f4)) e1 (e2.trans hz1.2.2.2.2.2.1)
                          · have h186 : (nI (bk + 1)) = (0 : Int32) := Classical.not_not.mp h1860
                            exact absurd h186 (by intro z; exact absurd (nI_inj (a := bk + 1) (b := 0) (by omega) (by decide) z) (by omega))
                  · exact absurd h68 (by decide)
              · have h39 : (nI q0) = (8 : Int32) := Classical.not_not.mp h390
                exact absurd (nI_inj (a := q0) (b := 8) (by omega) (by decide) h39) (by omega)
      · rw [if_neg k40] at hd
        cases res with
        | inl e =>
          refine r_run okX12_readAny 1 (cs := []) (σ' := (10, [some (.ref 100), some (.int (nI bk)), some (.int 1), none], [.int 1], (SS b c), Y, J, 0, 0)) rfl trivial ?_
          refine r_ifc okX12_readAny rfl (fun (h10 : (1 : Int32) = (0 : Int32)) => ?_) (fun (h10 : ¬ (1 : Int32) = (0 : Int32)) => ?_)
          · exact absurd h10 (by decide)
          · refine r_run okX12_readAny 2 (cs := []) (σ' := (16, [some (.ref 100), some (.int (nI bk)), some (.int 1), none], [.int 6, .ref 100], (SS b c), Y, J, 0, 0)) rfl trivial ?_
            refine r_callV okX12_readAny okX12_isWord [.int 6] [] 100 rfl rfl rfl kkX12_isWord rfl rfl (by decide) rfl rfl rfl (by decide) ⟨Nat.le_refl _, Nat.le_refl _⟩ (Nat.le_of_ble_eq_true rfl) (c_isWord0 γ hP 6 (by decide) rfl k6) (fun v1 S1 I1 J1 hp => ?_)
            obtain ⟨rfl, rfl, rfl, rfl⟩ := hp
            show Rj _ _ _ _ _ _ (19, [some (.ref 100), some (.int (nI bk)), some (.int 1), none], [.int 0], (SS b c), Y, J, 0, 0)
            refine r_run okX12_readAny 2 (cs := []) (σ' := (21, [some (.ref 100), some (.int (nI bk)), some (.int 1), some (.int 0)], [.int 0], (SS b c), Y, J, 0, 0)) rfl trivial ?_
            refine r_ifc okX12_readAny rfl (fun (h21 : ¬ (0 : Int32) = (0 : Int32)) => ?_) (fun h210 => ?_)
            · exact absurd h21 (by decide)
            · have h21 : (0 : Int32) = (0 : Int32) := Classical.not_not.mp h210
              refine r_run okX12_readAny 2 (cs := []) (σ' := (27, [some (.ref 100), some (.int (nI bk)), some (.int 1), some (.int 0)], [.int 40, .ref 100], (SS b c), Y, J, 0, 0)) rfl trivial ?_
              refine r_callV okX12_readAny okX12_isSign [.int 40] [] 100 rfl rfl rfl kkX12_isSign rfl rfl (by decide) rfl rfl rfl (by decide) ⟨Nat.le_refl _, Nat.le_refl _⟩ (Nat.le_of_ble_eq_true rfl) (c_isSign0 γ hP 40 rfl k40) (fun v1 S1 I1 J1 hp => ?_)
              obtain ⟨rfl, rfl, rfl, rfl⟩ := hp
              show Rj _ _ _ _ _ _ (30, [some (.ref 100), some (.int (nI bk)), some (.int 1), some (.int 0)], [.int 0], (SS b c), Y, J, 0, 0)
              refine r_ifc okX12_readAny rfl (fun (h30 : (0 : Int32) = (0 : Int32)) => ?_) (fun (h30 : ¬ (0 : Int32) = (0 : Int32)) => ?_)
              · refine r_run okX12_readAny 1 (cs := []) (σ' := (89, [some (.ref 100), some (.int (nI bk)), some (.int 1), some (.int 0)], [.ref 100], (SS b c), Y, J, 0, 0)) rfl trivial ?_
                refine r_callV okX12_readAny okX12_readCompared [] [] 100 rfl rfl rfl kkX12_readCompared rfl rfl (by decide) rfl rfl rfl (by decide) ⟨Nat.le_refl _, Nat.le_refl _⟩ (Nat.le_of_ble_eq_true rfl) (ct_F γ rfl (c_readCompared γ hT hP hO (by omega) (.inl e) hd)) (fun v1 S1 I1 J1 hp => ?_)
                obtain ⟨rfl, rfl, ⟨X1, rfl, f1, e1, e2⟩, rfl⟩ := hp
                show Rj _ _ _ _ _ _ (92, [some (.ref 100), some (.int (nI bk)), some (.int 1), some (.int 0)], [.int (-1)], (SS b c), X1, J, 0, 0)
                refine r_run okX12_readAny 1 (cs := []) (σ' := (93, [some (.ref 100), some (.int (nI bk)), some (.int 1), some (.int 0)], [.int (-1), .int (-1)], (SS b c), X1, J, 0, 0)) rfl trivial ?_
                refine r_icmp okX12_readAny rfl (fun (h93 : ¬ ((-1) : Int32) = ((-1) : Int32)) => ?_) (fun h930 => ?_)
                · exact absurd h93 (by decide)
                · have h93 : ((-1) : Int32) = ((-1) : Int32) := Classical.not_not.mp h930
                  refine r_run okX12_readAny 1 (cs := []) (σ' := (97, [some (.ref 100), some (.int (nI bk)), some (.int 1), some (.int 0)], [.int (-1)], (SS b c), X1, J, 0, 0)) rfl trivial ?_
                  refine r_iret okX12_readAny rfl rfl rfl (Nat.le_refl _) (Nat.le_refl _) ?_
                  exact KF e X1 rfl (fr_t hf f1) e1 e2
              · exact absurd h30 (by decide)
        | inr q =>
          refine r_run okX12_readAny 1 (cs := []) (σ' := (10, [some (.ref 100), some (.int (nI bk)), some (.int 1), none], [.int 1], (SS b c), Y, J, 0, 0)) rfl trivial ?_
          refine r_ifc okX12_readAny rfl (fun (h10 : (1 : Int32) = (0 : Int32)) => ?_) (fun (h10 : ¬ (1 : Int32) = (0 : Int32)) => ?_)
          · exact absurd h10 (by decide)
          · refine r_run okX12_readAny 2 (cs := []) (σ' := (16, [some (.ref 100), some (.int (nI bk)), some (.int 1), none], [.int 6, .ref 100], (SS b c), Y, J, 0, 0)) rfl trivial ?_
            refine r_callV okX12_readAny okX12_isWord [.int 6] [] 100 rfl rfl rfl kkX12_isWord rfl rfl (by decide) rfl rfl rfl (by decide) ⟨Nat.le_refl _, Nat.le_refl _⟩ (Nat.le_of_ble_eq_true rfl) (c_isWord0 γ hP 6 (by decide) rfl k6) (fun v1 S1 I1 J1 hp => ?_)
            obtain ⟨rfl, rfl, rfl, rfl⟩ := hp
            show Rj _ _ _ _ _ _ (19, [some (.ref 100), some (.int (nI bk)), some (.int 1), none], [.int 0], (SS b c), Y, J, 0, 0)
            refine r_run okX12_readAny 2 (cs := []) (σ' := (21, [some (.ref 100), some (.int (nI bk)), some (.int 1), some (.int 0)], [.int 0], (SS b c), Y, J, 0, 0)) rfl trivial ?_
            refine r_ifc okX12_readAny rfl (fun (h21 : ¬ (0 : Int32) = (0 : Int32)) => ?_) (fun h210 => ?_)
            · exact absurd h21 (by decide)
            · have h21 : (0 : Int32) = (0 : Int32) := Classical.not_not.mp h210
              refine r_run okX12_readAny 2 (cs := []) (σ' := (27, [some (.ref 100), some (.int (nI bk)), some (.int 1), some (.int 0)], [.int 40, .ref 100], (SS b c), Y, J, 0, 0)) rfl trivial ?_
              refine r_callV okX12_readAny okX12_isSign [.int 40] [] 100 rfl rfl rfl kkX12_isSign rfl rfl (by decide) rfl rfl rfl (by decide) ⟨Nat.le_refl _, Nat.le_refl _⟩ (Nat.le_of_ble_eq_true rfl) (c_isSign0 γ hP 40 rfl k40) (fun v1 S1 I1 J1 hp => ?_)
              obtain ⟨rfl, rfl, rfl, rfl⟩ := hp
              show Rj _ _ _ _ _ _ (30, [some (.ref 100), some (.int (nI bk)), some (.int 1), some (.int 0)], [.int 0], (SS b c), Y, J, 0, 0)
              refine r_ifc okX12_readAny rfl (fun (h30 : (0 : Int32) = (0 : Int32)) => ?_) (fun (h30 : ¬ (0 : Int32) = (0 : Int32)) => ?_)
              · refine r_run okX12_readAny 1 (cs := []) (σ' := (89, [some (.ref 100), some (.int (nI bk)), some (.int 1), some (.int 0)], [.ref 100], (SS b c), Y, J, 0, 0)) rfl trivial ?_
                refine r_callV okX12_readAny okX12_readCompared [] [] 100 rfl rfl rfl kkX12_readCompared rfl rfl (by decide) rfl rfl rfl (by decide) ⟨Nat.le_refl _, Nat.le_refl _⟩ (Nat.le_of_ble_eq_true rfl) (ct_S γ rfl (c_readCompared γ hT hP hO (by omega) (.inr q) hd)) (fun v1 S1 I1 J1 hp => ?_)
                obtain ⟨rfl, rfl, ⟨X1, rfl, f1, p1, o1, k1⟩, rfl⟩ := hp
                have hql := Cm_len hd
                have h1i := p1.2.2.2.1
                show Rj _ _ _ _ _ _ (92, [some (.ref 100), some (.int (nI bk)), some (.int 1), some (.int 0)], [.int 0], (SS b c), X1, J, 0, 0)
                refine r_run okX12_readAny 1 (cs := []) (σ' := (93, [some (.ref 100), some (.int (nI bk)), some (.int 1), some (.int 0)], [.int (-1), .int 0], (SS b c), X1, J, 0, 0)) rfl trivial ?_
                refine r_icmp okX12_readAny rfl (fun (h93 : ¬ (0 : Int32) = ((-1) : Int32)) => ?_) (fun h930 => ?_)
                · refine r_run okX12_readAny 2 (cs := []) (σ' := (101, [some (.ref 100), some (.int (nI bk)), some (.int 1), some (.int 0)], [.int 9, .ref 100], (SS b c), X1, J, 0, 0)) rfl trivial ?_
                  refine r_callV okX12_readAny okX12_settles [.int 9] [] 100 rfl rfl rfl kkX12_settles rfl rfl (by decide) rfl rfl rfl (by decide) ⟨Nat.le_refl _, Nat.le_refl _⟩ (Nat.le_of_ble_eq_true rfl) (c_settles γ 9 k p _ q0 (Pnd_k k1.1 k1.2.1 hPd) hp o1 (by rw [List.length_append]; omega) (by omega) (k1.2.2.trans hq) (fun _ => hk)) (fun v1 S1 I1 J1 hp => ?_)
                  obtain ⟨rfl, rfl, ⟨X2, rfl, s2, pn2, o2, op2⟩, rfl⟩ := hp
                  rw [if_pos rfl] at op2
                  show Rj _ _ _ _ _ _ (104, [some (.ref 100), some (.int (nI bk)), some (.int 1), some (.int 0)], [], (SS b c), X2, J, 0, 0)
                  refine r_run okX12_readAny 3 (cs := []) (σ' := (9, [some (.ref 100), some (.int (nI bk)), some (.int 0), some (.int 0)], [], (SS b c), X2, J, 0, 0)) rfl trivial ?_
                  refine r_weak (L' := [some (.ref 100), some (.int (nI bk)), some (.int 0), none]) ⟨rfl, rfl, rfl, trivial⟩ ?_
                  exact KS q X2 rfl (PSt_S s2 p1) o2 pn2 op2 (fr_t hf (fr_t f1 (fS_P s2)))
                · have h93 : (0 : Int32) = ((-1) : Int32) := Classical.not_not.mp h930
                  exact absurd h93 (by decide)
              · exact absurd h30 (by decide)
def RsA (T : Nat → Int32) (n : Nat) (X : AI) (l : List (Int32 × Int32)) (res : PR) (r : Option Value) (X' : AI) : Prop := match res with
  | .inl e => some (Value.int (-1)) = r ∧ fr qP X X' ∧ X' 100 40 = e.1 ∧ X' 100 41 = nI (psN T n e.2)
  | .inr q => some (Value.int 0) = r ∧ fr qP X X' ∧ PSt T n X' q.2 ∧ Out X' (l ++ flt q.1) ∧ X' 100 37 = 0
theorem c_readAny (γ : GE) {b c : Bool} {X : AI} {J : AJ} {T : Nat → Int32} {n i : Nat} {l : List (Int32 × Int32)} (hT : TpOK T n) (hP : PSt T n X i) (hO : Out X l) (hl : l.length ≤ i) (hop : X 100 37 = 0) (res : PR) (hd : An T n (Cn T n 8) i res) : Ct γ mX12_readAny 7 0 0 [.ref 100] (SS b c) X J (fun r S' I' J' => (SS b c) = S' ∧ J = J' ∧ RsA T n X l res r I') := by
  refine ct_of okX12_readAny (L := [some (.ref 100), none, none, none]) (Nat.le_of_ble_eq_true rfl) rfl ?_
  refine r_run okX12_readAny 7 (cs := []) (σ' := (9, [some (.ref 100), some (.int 0), some (.int 1), none], [], (SS b c), (upI X 100 39 0), J, 0, 0)) rfl trivial ?_
  have h := AnL_of γ b c J T n X (fun r S' I' J' => (SS b c) = S' ∧ J = J' ∧ RsA T n X l res r I') hT 8 (CnL_all γ b c J T n X (fun r S' I' J' => (SS b c) = S' ∧ J = J' ∧ RsA T n X l res r I') hT 8) i res hd (upI X 100 39 0) l [] 0 0 (PSt_O (up_O (Or.inr rfl)) hP) (Out_O (up_O (Or.inr rfl)) hO) ⟨rfl, trivial⟩ (fun x s e => by cases e) hop ⟨rfl, Nat.le_refl _⟩ (by simpa using hl) (Nat.le_refl _) (fO_P (up_O (Or.inr rfl))) (fun e X' he h1 h2 h3 => by subst he; exact ⟨rfl, rfl, rfl, h1, h2, h3⟩) (fun q Z he hz1 hz2 hz3 hz4 hz5 => ?_)
  · rw [nI_0] at h
    exact h
  · refine r_run okX12_readAny 1 (cs := []) (σ' := (186, [some (.ref 100), some (.int (nI 0)), some (.int 0), none], [.int (nI 0)], (SS b c), Z, J, 0, 0)) rfl trivial ?_
    refine r_ifc okX12_readAny rfl (fun (h186 : ¬ (nI 0) = (0 : Int32)) => ?_) (fun h1860 => ?_)
    · exact absurd rfl h186
    · have h186 : (nI 0) = (0 : Int32) := Classical.not_not.mp h1860
      refine r_run okX12_readAny 1 (cs := []) (σ' := (190, [some (.ref 100), some (.int (nI 0)), some (.int 0), none], [.int 0], (SS b c), Z, J, 0, 0)) rfl trivial ?_
      refine r_iret okX12_readAny rfl rfl rfl (Nat.le_refl _) (Nat.le_refl _) ?_
      refine ⟨rfl, rfl, ?_⟩
      subst he
      exact ⟨rfl, hz5, hz1, hz2, hz4⟩
