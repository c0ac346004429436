/-! ===== the reference: readSum, readCompared, waits, settles ===== -/
theorem Pd_len {T : Nat → Int32} {n i : Nat} {q : Cd × Nat} (h : Pd T n i (.inr q)) : (flt q.1).length + i ≤ q.2 := by
  unfold Pd at h
  cases hu : uR T n i with
  | inl e => rw [hu] at h; cases h
  | inr u =>
    rw [hu] at h
    obtain ⟨f, hf⟩ := h
    have h1 := PdT_len hf
    have h2 := uR_len hu
    omega
theorem Sm_len {T : Nat → Int32} {n i : Nat} {q : Cd × Nat} (h : Sm T n i (.inr q)) : (flt q.1).length + i ≤ q.2 := by
  unfold Sm at h
  cases hu : uR T n i with
  | inl e => rw [hu] at h; cases h
  | inr u =>
    rw [hu] at h
    obtain ⟨f, hf⟩ := h
    have h1 := SmT_len (fun o ho => by cases ho) hf
    have h2 := uR_len hu
    simp only [wC, List.length_nil] at h1
    omega
theorem Sm_sp {T : Nat → Int32} {n i : Nat} {res : PR} (h : Sm T n i res) : (∃ e, Pd T n i (.inl e) ∧ res = .inl e) ∨ ∃ q, Pd T n i (.inr q) ∧ ¬ kK T n q.2 = 42 ∧ ¬ kK T n q.2 = 47 ∧ ∃ f, SmT T n f none q.2 q.1 res := by
  unfold Sm at h
  unfold Pd
  cases hu : uR T n i with
  | inl e => rw [hu] at h; exact Or.inl ⟨e, rfl, h⟩
  | inr u =>
    rw [hu] at h
    obtain ⟨f, hf⟩ := h
    obtain ⟨r1, h1, h2⟩ := SmT_sp (a := []) (c := u.1) hf
    rcases h2 with ⟨e, e1, e2⟩ | ⟨q, e1, e2, e3, f1, e4, e5⟩
    · subst e1; exact Or.inl ⟨e, ⟨f, h1⟩, e2⟩
    · subst e1; exact Or.inr ⟨q, ⟨f, h1⟩, e2, e3, f1, e5⟩
theorem lp_sm (γ : GE) {b c : Bool} {X : AI} {J : AJ} {T : Nat → Int32} {n : Nat} {l : List (Int32 × Int32)} (hT : TpOK T n) (res : PR) : ∀ (N f i : Nat) (W : Option Int32) (acc : Cd) (Y : AI), f ≤ N → SmT T n f W i acc res → ¬ kK T n i = 42 → ¬ kK T n i = 47 → PSt T n Y i → Out Y (l ++ flt (acc ++ wC W)) → (l ++ flt (acc ++ wC W)).length ≤ i → fr qP X Y → kp X Y → Rj γ mX12_readSum 5 0 0 (fun r S' I' J' => (SS b c) = S' ∧ J = J' ∧ RsP T n X l res r I') (10, [some (.ref 100), none], [], (SS b c), Y, J, 0, 0) := by
  intro N
  induction N with
  | zero => intro f i W acc Y hN hd; rw [Nat.le_zero.mp hN] at hd; exact hd.elim
  | succ N ih =>
    intro f i W acc Y hN hd n42i n47i hP hO hl hf hkp
    cases f with
    | zero => exact hd.elim
    | succ f =>
    unfold SmT at hd
    by_cases k43 : kK T n i = 43
    · rw [if_pos (Or.inl k43)] at hd
      have hcase : (∃ e, Pd T n (i + 1) (.inl e) ∧ res = .inl e) ∨ ∃ q, Pd T n (i + 1) (.inr q) ∧ ¬ kK T n q.2 = 42 ∧ ¬ kK T n q.2 = 47 ∧ ∃ f1, f1 ≤ f ∧ SmT T n f1 (some 2) q.2 (acc ++ wC W ++ q.1) res := by
        unfold Pd
        cases hu : uR T n (i + 1) with
        | inl e => rw [hu] at hd; exact Or.inl ⟨e, rfl, hd⟩
        | inr u =>
          rw [hu] at hd
          replace hd : SmT T n f (some 2) u.2 (acc ++ wC W ++ u.1) res := by simpa [k43] using hd
          obtain ⟨r1, h1, h2⟩ := SmT_sp hd
          rcases h2 with ⟨e, e1, e2⟩ | ⟨q, e1, e2, e3, f1, e4, e5⟩
          · subst e1; exact Or.inl ⟨e, ⟨f, h1⟩, e2⟩
          · subst e1; exact Or.inr ⟨q, ⟨f, h1⟩, e2, e3, f1, e4, e5⟩
      have hv : Y 100 27 = 43 := ((toR_sg hP.2.2.2.2.2.2 (c := 43) rfl).mpr k43).2
      refine r_run okX12_readSum 2 (cs := []) (σ' := (13, [some (.ref 100), none], [.int 43, .ref 100], (SS b c), Y, J, 0, 0)) rfl trivial ?_
      refine r_callV okX12_readSum okX12_isSign [.int 43] [] 100 rfl rfl rfl kkX12_isSign rfl rfl (by decide) rfl rfl rfl (by decide) ⟨Nat.le_refl _, Nat.le_refl _⟩ (Nat.le_of_ble_eq_true rfl) (c_isSign1 γ hP 43 rfl k43) (fun v1 S1 I1 J1 hp => ?_)
      obtain ⟨rfl, rfl, rfl, rfl⟩ := hp
      show Rj _ _ _ _ _ _ (16, [some (.ref 100), none], [.int 1], (SS b c), Y, J, 0, 0)
      refine r_ifc okX12_readSum rfl (fun (h16 : ¬ (1 : Int32) = (0 : Int32)) => ?_) (fun h160 => ?_)
      · refine r_run okX12_readSum 3 (cs := []) (σ' := (34, [some (.ref 100), none], [.int 43, .int (Y 100 27)], (SS b c), Y, J, 0, 0)) rfl trivial ?_
        simp only [hv]
        show Rj _ _ _ _ _ _ (34, [some (.ref 100), none], [.int 43, .int 43], (SS b c), Y, J, 0, 0)
        refine r_icmp okX12_readSum rfl (fun (h34 : ¬ (43 : Int32) = (43 : Int32)) => ?_) (fun h340 => ?_)
        · exact absurd h34 (by decide)
        · have h34 : (43 : Int32) = (43 : Int32) := Classical.not_not.mp h340
          refine r_run okX12_readSum 4 (cs := []) (σ' := (44, [some (.ref 100), some (.int 2)], [.ref 100], (SS b c), Y, J, 0, 0)) rfl trivial ?_
          refine r_callV okX12_readSum okX12_next [] [] 100 rfl rfl rfl kkX12_next rfl rfl (by decide) rfl rfl rfl (by decide) ⟨Nat.le_refl _, Nat.le_refl _⟩ (Nat.le_of_ble_eq_true rfl) (c_nextT γ hT hP (by rw [k43]; decide)) (fun v1 S1 I1 J1 hp => ?_)
          obtain ⟨rfl, rfl, ⟨X1, rfl, f1, p1⟩, rfl⟩ := hp
          show Rj _ _ _ _ _ _ (47, [some (.ref 100), some (.int 2)], [], (SS b c), X1, J, 0, 0)
          have f1x := f1
          rcases hcase with ⟨e, hpd, hres⟩ | ⟨q, hpd, n42, n47, f1n, hf1, hs1⟩
          · refine r_run okX12_readSum 1 (cs := []) (σ' := (48, [some (.ref 100), some (.int 2)], [.ref 100], (SS b c), X1, J, 0, 0)) rfl trivial ?_
            refine r_callV okX12_readSum okX12_readProduct [] [] 100 rfl rfl rfl kkX12_readProduct rfl rfl (by decide) rfl rfl rfl (by decide) ⟨Nat.le_refl _, Nat.le_refl _⟩ (Nat.le_of_ble_eq_true rfl) (ct_F γ rfl (c_readProduct γ hT p1 (Out_4 f1 hO) (by omega) (.inl e) hpd)) (fun v1 S1 I1 J1 hp => ?_)
            obtain ⟨rfl, rfl, ⟨X2, rfl, f2, e1, e2⟩, rfl⟩ := hp
            show Rj _ _ _ _ _ _ (51, [some (.ref 100), some (.int 2)], [.int (-1)], (SS b c), X2, J, 0, 0)
            refine r_run okX12_readSum 1 (cs := []) (σ' := (52, [some (.ref 100), some (.int 2)], [.int (-1), .int (-1)], (SS b c), X2, J, 0, 0)) rfl trivial ?_
            refine r_icmp okX12_readSum rfl (fun (h52 : ¬ ((-1) : Int32) = ((-1) : Int32)) => ?_) (fun h520 => ?_)
            · exact absurd h52 (by decide)
            · have h52 : ((-1) : Int32) = ((-1) : Int32) := Classical.not_not.mp h520
              refine r_run okX12_readSum 1 (cs := []) (σ' := (56, [some (.ref 100), some (.int 2)], [.int (-1)], (SS b c), X2, J, 0, 0)) rfl trivial ?_
              refine r_iret okX12_readSum rfl rfl rfl (Nat.le_refl _) (Nat.le_refl _) ?_
              refine ⟨rfl, rfl, ?_⟩
              rw [hres]
              exact ⟨rfl, fr_t hf (fr_t (f4_P f1) f2), e1, e2⟩
          · refine r_run okX12_readSum 1 (cs := []) (σ' := (48, [some (.ref 100), some (.int 2)], [.ref 100], (SS b c), X1, J, 0, 0)) rfl trivial ?_
            refine r_callV okX12_readSum okX12_readProduct [] [] 100 rfl rfl rfl kkX12_readProduct rfl rfl (by decide) rfl rfl rfl (by decide) ⟨Nat.le_refl _, Nat.le_refl _⟩ (Nat.le_of_ble_eq_true rfl) (ct_S γ rfl (c_readProduct γ hT p1 (Out_4 f1 hO) (by omega) (.inr q) hpd)) (fun v1 S1 I1 J1 hp => ?_)
            obtain ⟨rfl, rfl, ⟨X2, rfl, f2, p2, o2, kp2⟩, rfl⟩ := hp
            have hql : (flt q.1).length + (i + 1) ≤ q.2 := Pd_len hpd
            rw [List.append_assoc, ← flt_app] at o2
            show Rj _ _ _ _ _ _ (51, [some (.ref 100), some (.int 2)], [.int 0], (SS b c), X2, J, 0, 0)
            refine r_run okX12_readSum 1 (cs := []) (σ' := (52, [some (.ref 100), some (.int 2)], [.int (-1), .int 0], (SS b c), X2, J, 0, 0)) rfl trivial ?_
            refine r_icmp okX12_readSum rfl (fun (h52 : ¬ (0 : Int32) = ((-1) : Int32)) => ?_) (fun h520 => ?_)
            · refine r_run okX12_readSum 3 (cs := []) (σ' := (60, [some (.ref 100), some (.int 2)], [.int 0, .int 2, .ref 100], (SS b c), X2, J, 0, 0)) rfl trivial ?_
              refine r_callV okX12_readSum okX12_emits [.int 2, .int 0] [] 100 rfl rfl rfl kkX12_emits rfl rfl (by decide) rfl rfl rfl (by decide) ⟨Nat.le_refl _, Nat.le_refl _⟩ (Nat.le_of_ble_eq_true rfl) (c_emits γ _ o2 (by rw [flt_app, ← List.append_assoc, List.length_append]; have := hT.1; have := p2.2.2.2.1; omega) 2 0) (fun v1 S1 I1 J1 hp => ?_)
              obtain ⟨rfl, rfl, ⟨X3, rfl, f3, o3⟩, rfl⟩ := hp
              show Rj _ _ _ _ _ _ (63, [some (.ref 100), some (.int 2)], [], (SS b c), X3, J, 0, 0)
              refine r_run okX12_readSum 1 (cs := []) (σ' := (10, [some (.ref 100), some (.int 2)], [], (SS b c), X3, J, 0, 0)) rfl trivial ?_
              refine r_weak (L' := [some (.ref 100), none]) ⟨rfl, trivial⟩ ?_
              refine ih f1n q.2 (some 2) (acc ++ wC W ++ q.1) X3 (by omega) hs1 n42 n47 (PSt_E f3 p2) ?_ ?_ (fr_t hf (fr_t (f4_P f1x) (fr_t f2 (fE_P f3)))) (kp_t hkp (kp_t (kp_4 f1x) (kp_t kp2 (kp_E f3))))
              · rw [flt_app, ← List.append_assoc]; exact o3
              · rw [flt_app, flt_app (c := acc ++ wC W), ← List.append_assoc, ← List.append_assoc, List.length_append, List.length_append]; have : (flt (wC (some 2))).length = 1 := rfl; omega
            · have h52 : (0 : Int32) = ((-1) : Int32) := Classical.not_not.mp h520
              exact absurd h52 (by decide)
      · have h16 : (1 : Int32) = (0 : Int32) := Classical.not_not.mp h160
        exact absurd h16 (by decide)
    · by_cases k45 : kK T n i = 45
      · rw [if_pos (Or.inr k45)] at hd
        have hcase : (∃ e, Pd T n (i + 1) (.inl e) ∧ res = .inl e) ∨ ∃ q, Pd T n (i + 1) (.inr q) ∧ ¬ kK T n q.2 = 42 ∧ ¬ kK T n q.2 = 47 ∧ ∃ f1, f1 ≤ f ∧ SmT T n f1 (some 3) q.2 (acc ++ wC W ++ q.1) res := by
          unfold Pd
          cases hu : uR T n (i + 1) with
          | inl e => rw [hu] at hd; exact Or.inl ⟨e, rfl, hd⟩
          | inr u =>
            rw [hu] at hd
            replace hd : SmT T n f (some 3) u.2 (acc ++ wC W ++ u.1) res := by simpa [k43] using hd
            obtain ⟨r1, h1, h2⟩ := SmT_sp hd
            rcases h2 with ⟨e, e1, e2⟩ | ⟨q, e1, e2, e3, f1, e4, e5⟩
            · subst e1; exact Or.inl ⟨e, ⟨f, h1⟩, e2⟩
            · subst e1; exact Or.inr ⟨q, ⟨f, h1⟩, e2, e3, f1, e4, e5⟩
        have hv : Y 100 27 = 45 := ((toR_sg hP.2.2.2.2.2.2 (c := 45) rfl).mpr k45).2
        refine r_run okX12_readSum 2 (cs := []) (σ' := (13, [some (.ref 100), none], [.int 43, .ref 100], (SS b c), Y, J, 0, 0)) rfl trivial ?_
        refine r_callV okX12_readSum okX12_isSign [.int 43] [] 100 rfl rfl rfl kkX12_isSign rfl rfl (by decide) rfl rfl rfl (by decide) ⟨Nat.le_refl _, Nat.le_refl _⟩ (Nat.le_of_ble_eq_true rfl) (c_isSign0 γ hP 43 rfl k43) (fun v1 S1 I1 J1 hp => ?_)
        obtain ⟨rfl, rfl, rfl, rfl⟩ := hp
        show Rj _ _ _ _ _ _ (16, [some (.ref 100), none], [.int 0], (SS b c), Y, J, 0, 0)
        refine r_ifc okX12_readSum rfl (fun (h16 : ¬ (0 : Int32) = (0 : Int32)) => ?_) (fun h160 => ?_)
        · exact absurd h16 (by decide)
        · have h16 : (0 : Int32) = (0 : Int32) := Classical.not_not.mp h160
          refine r_run okX12_readSum 2 (cs := []) (σ' := (22, [some (.ref 100), none], [.int 45, .ref 100], (SS b c), Y, J, 0, 0)) rfl trivial ?_
          refine r_callV okX12_readSum okX12_isSign [.int 45] [] 100 rfl rfl rfl kkX12_isSign rfl rfl (by decide) rfl rfl rfl (by decide) ⟨Nat.le_refl _, Nat.le_refl _⟩ (Nat.le_of_ble_eq_true rfl) (c_isSign1 γ hP 45 rfl k45) (fun v1 S1 I1 J1 hp => ?_)
          obtain ⟨rfl, rfl, rfl, rfl⟩ := hp
          show Rj _ _ _ _ _ _ (25, [some (.ref 100), none], [.int 1], (SS b c), Y, J, 0, 0)
          refine r_ifc okX12_readSum rfl (fun (h25 : (1 : Int32) = (0 : Int32)) => ?_) (fun (h25 : ¬ (1 : Int32) = (0 : Int32)) => ?_)
          · exact absurd h25 (by decide)
          · refine r_run okX12_readSum 3 (cs := []) (σ' := (34, [some (.ref 100), none], [.int 43, .int (Y 100 27)], (SS b c), Y, J, 0, 0)) rfl trivial ?_
            simp only [hv]
            show Rj _ _ _ _ _ _ (34, [some (.ref 100), none], [.int 43, .int 45], (SS b c), Y, J, 0, 0)
            refine r_icmp okX12_readSum rfl (fun (h34 : ¬ (45 : Int32) = (43 : Int32)) => ?_) (fun h340 => ?_)
            · refine r_run okX12_readSum 3 (cs := []) (σ' := (44, [some (.ref 100), some (.int 3)], [.ref 100], (SS b c), Y, J, 0, 0)) rfl trivial ?_
              refine r_callV okX12_readSum okX12_next [] [] 100 rfl rfl rfl kkX12_next rfl rfl (by decide) rfl rfl rfl (by decide) ⟨Nat.le_refl _, Nat.le_refl _⟩ (Nat.le_of_ble_eq_true rfl) (c_nextT γ hT hP (by rw [k45]; decide)) (fun v1 S1 I1 J1 hp => ?_)
              obtain ⟨rfl, rfl, ⟨X1, rfl, f1, p1⟩, rfl⟩ := hp
              show Rj _ _ _ _ _ _ (47, [some (.ref 100), some (.int 3)], [], (SS b c), X1, J, 0, 0)
              have f1x := f1
              rcases hcase with ⟨e, hpd, hres⟩ | ⟨q, hpd, n42, n47, f1n, hf1, hs1⟩
              · refine r_run okX12_readSum 1 (cs := []) (σ' := (48, [some (.ref 100), some (.int 3)], [.ref 100], (SS b c), X1, J, 0, 0)) rfl trivial ?_
                refine r_callV okX12_readSum okX12_readProduct [] [] 100 rfl rfl rfl kkX12_readProduct rfl rfl (by decide) rfl rfl rfl (by decide) ⟨Nat.le_refl _, Nat.le_refl _⟩ (Nat.le_of_ble_eq_true rfl) (ct_F γ rfl (c_readProduct γ hT p1 (Out_4 f1 hO) (by omega) (.inl e) hpd)) (fun v1 S1 I1 J1 hp => ?_)
                obtain ⟨rfl, rfl, ⟨X2, rfl, f2, e1, e2⟩, rfl⟩ := hp
                show Rj _ _ _ _ _ _ (51, [some (.ref 100), some (.int 3)], [.int (-1)], (SS b c), X2, J, 0, 0)
                refine r_run okX12_readSum 1 (cs := []) (σ' := (52, [some (.ref 100), some (.int 3)], [.int (-1), .int (-1)], (SS b c), X2, J, 0, 0)) rfl trivial ?_
                refine r_icmp okX12_readSum rfl (fun (h52 : ¬ ((-1) : Int32) = ((-1) : Int32)) => ?_) (fun h520 => ?_)
                · exact absurd h52 (by decide)
                · have h52 : ((-1) : Int32) = ((-1) : Int32) := Classical.not_not.mp h520
                  refine r_run okX12_readSum 1 (cs := []) (σ' := (56, [some (.ref 100), some (.int 3)], [.int (-1)], (SS b c), X2, J, 0, 0)) rfl trivial ?_
                  refine r_iret okX12_readSum rfl rfl rfl (Nat.le_refl _) (Nat.le_refl _) ?_
                  refine ⟨rfl, rfl, ?_⟩
                  rw [hres]
                  exact ⟨rfl, fr_t hf (fr_t (f4_P f1) f2), e1, e2⟩
              · refine r_run okX12_readSum 1 (cs := []) (σ' := (48, [some (.ref 100), some (.int 3)], [.ref 100], (SS b c), X1, J, 0, 0)) rfl trivial ?_
                refine r_callV okX12_readSum okX12_readProduct [] [] 100 rfl rfl rfl kkX12_readProduct rfl rfl (by decide) rfl rfl rfl (by decide) ⟨Nat.le_refl _, Nat.le_refl _⟩ (Nat.le_of_ble_eq_true rfl) (ct_S γ rfl (c_readProduct γ hT p1 (Out_4 f1 hO) (by omega) (.inr q) hpd)) (fun v1 S1 I1 J1 hp => ?_)
                obtain ⟨rfl, rfl, ⟨X2, rfl, f2, p2, o2, kp2⟩, rfl⟩ := hp
                have hql : (flt q.1).length + (i + 1) ≤ q.2 := Pd_len hpd
                rw [List.append_assoc, ← flt_app] at o2
                show Rj _ _ _ _ _ _ (51, [some (.ref 100), some (.int 3)], [.int 0], (SS b c), X2, J, 0, 0)
                refine r_run okX12_readSum 1 (cs := []) (σ' := (52, [some (.ref 100), some (.int 3)], [.int (-1), .int 0], (SS b c), X2, J, 0, 0)) rfl trivial ?_
                refine r_icmp okX12_readSum rfl (fun (h52 : ¬ (0 : Int32) = ((-1) : Int32)) => ?_) (fun h520 => ?_)
                · refine r_run okX12_readSum 3 (cs := []) (σ' := (60, [some (.ref 100), some (.int 3)], [.int 0, .int 3, .ref 100], (SS b c), X2, J, 0, 0)) rfl trivial ?_
                  refine r_callV okX12_readSum okX12_emits [.int 3, .int 0] [] 100 rfl rfl rfl kkX12_emits rfl rfl (by decide) rfl rfl rfl (by decide) ⟨Nat.le_refl _, Nat.le_refl _⟩ (Nat.le_of_ble_eq_true rfl) (c_emits γ _ o2 (by rw [flt_app, ← List.append_assoc, List.length_append]; have := hT.1; have := p2.2.2.2.1; omega) 3 0) (fun v1 S1 I1 J1 hp => ?_)
                  obtain ⟨rfl, rfl, ⟨X3, rfl, f3, o3⟩, rfl⟩ := hp
                  show Rj _ _ _ _ _ _ (63, [some (.ref 100), some (.int 3)], [], (SS b c), X3, J, 0, 0)
                  refine r_run okX12_readSum 1 (cs := []) (σ' := (10, [some (.ref 100), some (.int 3)], [], (SS b c), X3, J, 0, 0)) rfl trivial ?_
                  refine r_weak (L' := [some (.ref 100), none]) ⟨rfl, trivial⟩ ?_
                  refine ih f1n q.2 (some 3) (acc ++ wC W ++ q.1) X3 (by omega) hs1 n42 n47 (PSt_E f3 p2) ?_ ?_ (fr_t hf (fr_t (f4_P f1x) (fr_t f2 (fE_P f3)))) (kp_t hkp (kp_t (kp_4 f1x) (kp_t kp2 (kp_E f3))))
                  · rw [flt_app, ← List.append_assoc]; exact o3
                  · rw [flt_app, flt_app (c := acc ++ wC W), ← List.append_assoc, ← List.append_assoc, List.length_append, List.length_append]; have : (flt (wC (some 3))).length = 1 := rfl; omega
                · have h52 : (0 : Int32) = ((-1) : Int32) := Classical.not_not.mp h520
                  exact absurd h52 (by decide)
            · have h34 : (45 : Int32) = (43 : Int32) := Classical.not_not.mp h340
              exact absurd h34 (by decide)
      · rw [if_neg (fun q => q.elim k43 k45), if_neg n42i, if_neg n47i] at hd
        refine r_run okX12_readSum 2 (cs := []) (σ' := (13, [some (.ref 100), none], [.int 43, .ref 100], (SS b c), Y, J, 0, 0)) rfl trivial ?_
        refine r_callV okX12_readSum okX12_isSign [.int 43] [] 100 rfl rfl rfl kkX12_isSign rfl rfl (by decide) rfl rfl rfl (by decide) ⟨Nat.le_refl _, Nat.le_refl _⟩ (Nat.le_of_ble_eq_true rfl) (c_isSign0 γ hP 43 rfl k43) (fun v1 S1 I1 J1 hp => ?_)
        obtain ⟨rfl, rfl, rfl, rfl⟩ := hp
        show Rj _ _ _ _ _ _ (16, [some (.ref 100), none], [.int 0], (SS b c), Y, J, 0, 0)
        refine r_ifc okX12_readSum rfl (fun (h16 : ¬ (0 : Int32) = (0 : Int32)) => ?_) (fun h160 => ?_)
        · exact absurd h16 (by decide)
        · have h16 : (0 : Int32) = (0 : Int32) := Classical.not_not.mp h160
          refine r_run okX12_readSum 2 (cs := []) (σ' := (22, [some (.ref 100), none], [.int 45, .ref 100], (SS b c), Y, J, 0, 0)) rfl trivial ?_
          refine r_callV okX12_readSum okX12_isSign [.int 45] [] 100 rfl rfl rfl kkX12_isSign rfl rfl (by decide) rfl rfl rfl (by decide) ⟨Nat.le_refl _, Nat.le_refl _⟩ (Nat.le_of_ble_eq_true rfl) (c_isSign0 γ hP 45 rfl k45) (fun v1 S1 I1 J1 hp => ?_)
          obtain ⟨rfl, rfl, rfl, rfl⟩ := hp
          show Rj _ _ _ _ _ _ (25, [some (.ref 100), none], [.int 0], (SS b c), Y, J, 0, 0)
          refine r_ifc okX12_readSum rfl (fun (h25 : (0 : Int32) = (0 : Int32)) => ?_) (fun (h25 : ¬ (0 : Int32) = (0 : Int32)) => ?_)
          · refine r_run okX12_readSum 1 (cs := []) (σ' := (67, [some (.ref 100), none], [.int 0], (SS b c), Y, J, 0, 0)) rfl trivial ?_
            refine r_iret okX12_readSum rfl rfl rfl (Nat.le_refl _) (Nat.le_refl _) ?_
            refine ⟨rfl, rfl, ?_⟩
            rw [hd]
            exact ⟨rfl, hf, hP, hO, hkp⟩
          · exact absurd h25 (by decide)
theorem c_readSum (γ : GE) {b c : Bool} {X : AI} {J : AJ} {T : Nat → Int32} {n i : Nat} {l : List (Int32 × Int32)} (hT : TpOK T n) (hP : PSt T n X i) (hO : Out X l) (hl : l.length ≤ i) (res : PR) (hd : Sm T n i res) : Ct γ mX12_readSum 5 0 0 [.ref 100] (SS b c) X J (fun r S' I' J' => (SS b c) = S' ∧ J = J' ∧ RsP T n X l res r I') := by
  refine ct_of okX12_readSum (L := [some (.ref 100), none]) (Nat.le_of_ble_eq_true rfl) rfl ?_
  rcases Sm_sp hd with ⟨e, hpd, hres⟩ | ⟨q, hpd, n42, n47, f, hs⟩
  · refine r_run okX12_readSum 1 (cs := []) (σ' := (1, [some (.ref 100), none], [.ref 100], (SS b c), X, J, 0, 0)) rfl trivial ?_
    refine r_callV okX12_readSum okX12_readProduct [] [] 100 rfl rfl rfl kkX12_readProduct rfl rfl (by decide) rfl rfl rfl (by decide) ⟨Nat.le_refl _, Nat.le_refl _⟩ (Nat.le_of_ble_eq_true rfl) (ct_F γ rfl (c_readProduct γ hT hP hO hl (.inl e) hpd)) (fun v1 S1 I1 J1 hp => ?_)
    obtain ⟨rfl, rfl, ⟨X1, rfl, f1, e1, e2⟩, rfl⟩ := hp
    show Rj _ _ _ _ _ _ (4, [some (.ref 100), none], [.int (-1)], (SS b c), X1, J, 0, 0)
    refine r_run okX12_readSum 1 (cs := []) (σ' := (5, [some (.ref 100), none], [.int (-1), .int (-1)], (SS b c), X1, J, 0, 0)) rfl trivial ?_
    refine r_icmp okX12_readSum rfl (fun (h5 : ¬ ((-1) : Int32) = ((-1) : Int32)) => ?_) (fun h50 => ?_)
    · exact absurd h5 (by decide)
    · have h5 : ((-1) : Int32) = ((-1) : Int32) := Classical.not_not.mp h50
      refine r_run okX12_readSum 1 (cs := []) (σ' := (9, [some (.ref 100), none], [.int (-1)], (SS b c), X1, J, 0, 0)) rfl trivial ?_
      refine r_iret okX12_readSum rfl rfl rfl (Nat.le_refl _) (Nat.le_refl _) ?_
      refine ⟨rfl, rfl, ?_⟩
      rw [hres]
      exact ⟨rfl, f1, e1, e2⟩
  · refine r_run okX12_readSum 1 (cs := []) (σ' := (1, [some (.ref 100), none], [.ref 100], (SS b c), X, J, 0, 0)) rfl trivial ?_
    refine r_callV okX12_readSum okX12_readProduct [] [] 100 rfl rfl rfl kkX12_readProduct rfl rfl (by decide) rfl rfl rfl (by decide) ⟨Nat.le_refl _, Nat.le_refl _⟩ (Nat.le_of_ble_eq_true rfl) (ct_S γ rfl (c_readProduct γ hT hP hO hl (.inr q) hpd)) (fun v1 S1 I1 J1 hp => ?_)
    obtain ⟨rfl, rfl, ⟨X1, rfl, f1, p1, o1, k1⟩, rfl⟩ := hp
    show Rj _ _ _ _ _ _ (4, [some (.ref 100), none], [.int 0], (SS b c), X1, J, 0, 0)
    refine r_run okX12_readSum 1 (cs := []) (σ' := (5, [some (.ref 100), none], [.int (-1), .int 0], (SS b c), X1, J, 0, 0)) rfl trivial ?_
    refine r_icmp okX12_readSum rfl (fun (h5 : ¬ (0 : Int32) = ((-1) : Int32)) => ?_) (fun h50 => ?_)
    · have hql := Pd_len hpd
      exact lp_sm γ hT res f f q.2 none q.1 X1 (Nat.le_refl _) hs n42 n47 p1 (by rw [wC, List.append_nil]; exact o1) (by rw [wC, List.append_nil, List.length_append]; omega) f1 k1
    · have h5 : (0 : Int32) = ((-1) : Int32) := Classical.not_not.mp h50
      exact absurd h5 (by decide)
def cmO (k : Int32) : Int32 := if k = 60 then 6 else if k = 61 then 7 else 8
def isCm (k : Int32) : Bool := decide (k = 60) || decide (k = 61) || decide (k = 62)
def Cm (T : Nat → Int32) (n i : Nat) (res : PR) : Prop := ∃ r1, Sm T n i r1 ∧ ((∃ e, r1 = .inl e ∧ res = .inl e) ∨ ∃ q, r1 = .inr q ∧ ((isCm (kK T n q.2) = false ∧ res = .inl (1, q.2)) ∨ (isCm (kK T n q.2) = true ∧ ∃ r2, Sm T n (q.2 + 1) r2 ∧ ((∃ e, r2 = .inl e ∧ res = .inl e) ∨ ∃ q2, r2 = .inr q2 ∧ res = .inr (q.1 ++ q2.1 ++ [(cmO (kK T n q.2), 0)], q2.2)))))
theorem cmO_5 (k : Int32) : ¬ cmO k = 5 := by unfold cmO; split; (· decide); split <;> decide
theorem Cm_len {T : Nat → Int32} {n i : Nat} {q : Cd × Nat} (h : Cm T n i (.inr q)) : (flt q.1).length + i ≤ q.2 := by
  obtain ⟨r1, h1, h2⟩ := h
  rcases h2 with ⟨e, -, e2⟩ | ⟨q1, e1, h3⟩
  · cases e2
  · rcases h3 with ⟨-, e2⟩ | ⟨-, r2, h4, h5⟩
    · cases e2
    · rcases h5 with ⟨e, -, e2⟩ | ⟨q2, e3, e4⟩
      · cases e2
      · subst e1 e3
        cases e4
        have l1 := Sm_len h1
        have l2 := Sm_len h4
        rw [flt_app, flt_app, List.length_append, List.length_append, flt_l1 (cmO_5 _)]
        omega
theorem c_readCompared (γ : GE) {b c : Bool} {X : AI} {J : AJ} {T : Nat → Int32} {n i : Nat} {l : List (Int32 × Int32)} (hT : TpOK T n) (hP : PSt T n X i) (hO : Out X l) (hl : l.length ≤ i) (res : PR) (hd : Cm T n i res) : Ct γ mX12_readCompared 6 0 0 [.ref 100] (SS b c) X J (fun r S' I' J' => (SS b c) = S' ∧ J = J' ∧ RsP T n X l res r I') := by
  refine ct_of okX12_readCompared (L := [some (.ref 100), none]) (Nat.le_of_ble_eq_true rfl) rfl ?_
  obtain ⟨r1, hs1, hc⟩ := hd
  rcases hc with ⟨e, rfl, hres⟩ | ⟨q, rfl, hc3⟩
  · refine r_run okX12_readCompared 1 (cs := []) (σ' := (1, [some (.ref 100), none], [.ref 100], (SS b c), X, J, 0, 0)) rfl trivial ?_
    refine r_callV okX12_readCompared okX12_readSum [] [] 100 rfl rfl rfl kkX12_readSum rfl rfl (by decide) rfl rfl rfl (by decide) ⟨Nat.le_refl _, Nat.le_refl _⟩ (Nat.le_of_ble_eq_true rfl) (ct_F γ rfl (c_readSum γ hT hP hO hl (.inl e) hs1)) (fun v1 S1 I1 J1 hp => ?_)
    obtain ⟨rfl, rfl, ⟨X1, rfl, f1, e1, e2⟩, rfl⟩ := hp
    show Rj _ _ _ _ _ _ (4, [some (.ref 100), none], [.int (-1)], (SS b c), X1, J, 0, 0)
    refine r_run okX12_readCompared 1 (cs := []) (σ' := (5, [some (.ref 100), none], [.int (-1), .int (-1)], (SS b c), X1, J, 0, 0)) rfl trivial ?_
    refine r_icmp okX12_readCompared rfl (fun (h5 : ¬ ((-1) : Int32) = ((-1) : Int32)) => ?_) (fun h50 => ?_)
    · exact absurd h5 (by decide)
    · have h5 : ((-1) : Int32) = ((-1) : Int32) := Classical.not_not.mp h50
      refine r_run okX12_readCompared 1 (cs := []) (σ' := (9, [some (.ref 100), none], [.int (-1)], (SS b c), X1, J, 0, 0)) rfl trivial ?_
      refine r_iret okX12_readCompared rfl rfl rfl (Nat.le_refl _) (Nat.le_refl _) ?_
      refine ⟨rfl, rfl, ?_⟩
      rw [hres]
      exact ⟨rfl, f1, e1, e2⟩
  · refine r_run okX12_readCompared 1 (cs := []) (σ' := (1, [some (.ref 100), none], [.ref 100], (SS b c), X, J, 0, 0)) rfl trivial ?_
    refine r_callV okX12_readCompared okX12_readSum [] [] 100 rfl rfl rfl kkX12_readSum rfl rfl (by decide) rfl rfl rfl (by decide) ⟨Nat.le_refl _, Nat.le_refl _⟩ (Nat.le_of_ble_eq_true rfl) (ct_S γ rfl (c_readSum γ hT hP hO hl (.inr q) hs1)) (fun v1 S1 I1 J1 hp => ?_)
    obtain ⟨rfl, rfl, ⟨X1, rfl, f1, p1, o1, k1⟩, rfl⟩ := hp
    show Rj _ _ _ _ _ _ (4, [some (.ref 100), none], [.int 0], (SS b c), X1, J, 0, 0)
    refine r_run okX12_readCompared 1 (cs := []) (σ' := (5, [some (.ref 100), none], [.int (-1), .int 0], (SS b c), X1, J, 0, 0)) rfl trivial ?_
    refine r_icmp okX12_readCompared rfl (fun (h5 : ¬ (0 : Int32) = ((-1) : Int32)) => ?_) (fun h50 => ?_)
    · have hql := Sm_len hs1
      by_cases k60 : kK T n q.2 = 60
      · have hv : X1 100 27 = 60 := ((toR_sg p1.2.2.2.2.2.2 (c := 60) rfl).mpr k60).2
        rw [show isCm (kK T n q.2) = true by rw [k60]; decide] at hc3
        rcases hc3 with ⟨h, -⟩ | ⟨-, r2, hs2, hc5⟩
        · cases h
        · refine r_run okX12_readCompared 2 (cs := []) (σ' := (13, [some (.ref 100), none], [.int 60, .ref 100], (SS b c), X1, J, 0, 0)) rfl trivial ?_
          refine r_callV okX12_readCompared okX12_isSign [.int 60] [] 100 rfl rfl rfl kkX12_isSign rfl rfl (by decide) rfl rfl rfl (by decide) ⟨Nat.le_refl _, Nat.le_refl _⟩ (Nat.le_of_ble_eq_true rfl) (c_isSign1 γ p1 60 rfl k60) (fun v1 S1 I1 J1 hp => ?_)
          obtain ⟨rfl, rfl, rfl, rfl⟩ := hp
          show Rj _ _ _ _ _ _ (16, [some (.ref 100), none], [.int 1], (SS b c), X1, J, 0, 0)
          refine r_ifc okX12_readCompared rfl (fun (h16 : ¬ (1 : Int32) = (0 : Int32)) => ?_) (fun h160 => ?_)
          · refine r_run okX12_readCompared 3 (cs := []) (σ' := (49, [some (.ref 100), none], [.int 60, .int (X1 100 27)], (SS b c), X1, J, 0, 0)) rfl trivial ?_
            simp only [hv]
            show Rj _ _ _ _ _ _ (49, [some (.ref 100), none], [.int 60, .int 60], (SS b c), X1, J, 0, 0)
            refine r_icmp okX12_readCompared rfl (fun (h49 : ¬ (60 : Int32) = (60 : Int32)) => ?_) (fun h490 => ?_)
            · exact absurd h49 (by decide)
            · have h49 : (60 : Int32) = (60 : Int32) := Classical.not_not.mp h490
              refine r_run okX12_readCompared 4 (cs := []) (σ' := (75, [some (.ref 100), some (.int 6)], [.ref 100], (SS b c), X1, J, 0, 0)) rfl trivial ?_
              refine r_callV okX12_readCompared okX12_next [] [] 100 rfl rfl rfl kkX12_next rfl rfl (by decide) rfl rfl rfl (by decide) ⟨Nat.le_refl _, Nat.le_refl _⟩ (Nat.le_of_ble_eq_true rfl) (c_nextT γ hT p1 (by rw [k60]; decide)) (fun v1 S1 I1 J1 hp => ?_)
              obtain ⟨rfl, rfl, ⟨X2, rfl, f2, p2⟩, rfl⟩ := hp
              show Rj _ _ _ _ _ _ (78, [some (.ref 100), some (.int 6)], [], (SS b c), X2, J, 0, 0)
              rcases hc5 with ⟨e, rfl, hres⟩ | ⟨q2, rfl, hres⟩
              · refine r_run okX12_readCompared 1 (cs := []) (σ' := (79, [some (.ref 100), some (.int 6)], [.ref 100], (SS b c), X2, J, 0, 0)) rfl trivial ?_
                refine r_callV okX12_readCompared okX12_readSum [] [] 100 rfl rfl rfl kkX12_readSum rfl rfl (by decide) rfl rfl rfl (by decide) ⟨Nat.le_refl _, Nat.le_refl _⟩ (Nat.le_of_ble_eq_true rfl) (ct_F γ rfl (c_readSum γ hT p2 (Out_4 f2 o1) (by rw [List.length_append]; omega) (.inl e) hs2)) (fun v1 S1 I1 J1 hp => ?_)
                obtain ⟨rfl, rfl, ⟨X3, rfl, f3, e1, e2⟩, rfl⟩ := hp
                show Rj _ _ _ _ _ _ (82, [some (.ref 100), some (.int 6)], [.int (-1)], (SS b c), X3, J, 0, 0)
                refine r_run okX12_readCompared 1 (cs := []) (σ' := (83, [some (.ref 100), some (.int 6)], [.int (-1), .int (-1)], (SS b c), X3, J, 0, 0)) rfl trivial ?_
                refine r_icmp okX12_readCompared rfl (fun (h83 : ¬ ((-1) : Int32) = ((-1) : Int32)) => ?_) (fun h830 => ?_)
                · exact absurd h83 (by decide)
                · have h83 : ((-1) : Int32) = ((-1) : Int32) := Classical.not_not.mp h830
                  refine r_run okX12_readCompared 1 (cs := []) (σ' := (87, [some (.ref 100), some (.int 6)], [.int (-1)], (SS b c), X3, J, 0, 0)) rfl trivial ?_
                  refine r_iret okX12_readCompared rfl rfl rfl (Nat.le_refl _) (Nat.le_refl _) ?_
                  refine ⟨rfl, rfl, ?_⟩
                  rw [hres]
                  exact ⟨rfl, fr_t f1 (fr_t (f4_P f2) f3), e1, e2⟩
              · refine r_run okX12_readCompared 1 (cs := []) (σ' := (79, [some (.ref 100), some (.int 6)], [.ref 100], (SS b c), X2, J, 0, 0)) rfl trivial ?_
                refine r_callV okX12_readCompared okX12_readSum [] [] 100 rfl rfl rfl kkX12_readSum rfl rfl (by decide) rfl rfl rfl (by decide) ⟨Nat.le_refl _, Nat.le_refl _⟩ (Nat.le_of_ble_eq_true rfl) (ct_S γ rfl (c_readSum γ hT p2 (Out_4 f2 o1) (by rw [List.length_append]; omega) (.inr q2) hs2)) (fun v1 S1 I1 J1 hp => ?_)
                obtain ⟨rfl, rfl, ⟨X3, rfl, f3, p3, o3, k3⟩, rfl⟩ := hp
                have hql2 := Sm_len hs2
                show Rj _ _ _ _ _ _ (82, [some (.ref 100), some (.int 6)], [.int 0], (SS b c), X3, J, 0, 0)
                refine r_run okX12_readCompared 1 (cs := []) (σ' := (83, [some (.ref 100), some (.int 6)], [.int (-1), .int 0], (SS b c), X3, J, 0, 0)) rfl trivial ?_
                refine r_icmp okX12_readCompared rfl (fun (h83 : ¬ (0 : Int32) = ((-1) : Int32)) => ?_) (fun h830 => ?_)
                · refine r_run okX12_readCompared 3 (cs := []) (σ' := (91, [some (.ref 100), some (.int 6)], [.int 0, .int 6, .ref 100], (SS b c), X3, J, 0, 0)) rfl trivial ?_
                  refine r_callV okX12_readCompared okX12_emits [.int 6, .int 0] [] 100 rfl rfl rfl kkX12_emits rfl rfl (by decide) rfl rfl rfl (by decide) ⟨Nat.le_refl _, Nat.le_refl _⟩ (Nat.le_of_ble_eq_true rfl) (c_emits γ _ o3 (by rw [List.length_append, List.length_append]; have := hT.1; have := p3.2.2.2.1; omega) 6 0) (fun v1 S1 I1 J1 hp => ?_)
                  obtain ⟨rfl, rfl, ⟨X4, rfl, f4, o4⟩, rfl⟩ := hp
                  show Rj _ _ _ _ _ _ (94, [some (.ref 100), some (.int 6)], [], (SS b c), X4, J, 0, 0)
                  refine r_run okX12_readCompared 1 (cs := []) (σ' := (95, [some (.ref 100), some (.int 6)], [.int 0], (SS b c), X4, J, 0, 0)) rfl trivial ?_
                  refine r_iret okX12_readCompared rfl rfl rfl (Nat.le_refl _) (Nat.le_refl _) ?_
                  refine ⟨rfl, rfl, ?_⟩
                  rw [hres]
                  refine ⟨rfl, fr_t f1 (fr_t (f4_P f2) (fr_t f3 (fE_P f4))), PSt_E f4 p3, ?_, kp_t k1 (kp_t (kp_4 f2) (kp_t k3 (kp_E f4)))⟩
                  rw [k60, flt_app, flt_app, ← List.append_assoc, ← List.append_assoc]
                  exact o4
                · have h83 : (0 : Int32) = ((-1) : Int32) := Classical.not_not.mp h830
                  exact absurd h83 (by decide)
          · have h16 : (1 : Int32) = (0 : Int32) := Classical.not_not.mp h160
            exact absurd h16 (by decide)
      · by_cases k61 : kK T n q.2 = 61
        · have hv : X1 100 27 = 61 := ((toR_sg p1.2.2.2.2.2.2 (c := 61) rfl).mpr k61).2
          rw [show isCm (kK T n q.2) = true by rw [k61]; decide] at hc3
          rcases hc3 with ⟨h, -⟩ | ⟨-, r2, hs2, hc5⟩
          · cases h
          · refine r_run okX12_readCompared 2 (cs := []) (σ' := (13, [some (.ref 100), none], [.int 60, .ref 100], (SS b c), X1, J, 0, 0)) rfl trivial ?_
            refine r_callV okX12_readCompared okX12_isSign [.int 60] [] 100 rfl rfl rfl kkX12_isSign rfl rfl (by decide) rfl rfl rfl (by decide) ⟨Nat.le_refl _, Nat.le_refl _⟩ (Nat.le_of_ble_eq_true rfl) (c_isSign0 γ p1 60 rfl k60) (fun v1 S1 I1 J1 hp => ?_)
            obtain ⟨rfl, rfl, rfl, rfl⟩ := hp
            show Rj _ _ _ _ _ _ (16, [some (.ref 100), none], [.int 0], (SS b c), X1, J, 0, 0)
            refine r_ifc okX12_readCompared rfl (fun (h16 : ¬ (0 : Int32) = (0 : Int32)) => ?_) (fun h160 => ?_)
            · exact absurd h16 (by decide)
            · have h16 : (0 : Int32) = (0 : Int32) := Classical.not_not.mp h160
              refine r_run okX12_readCompared 2 (cs := []) (σ' := (22, [some (.ref 100), none], [.int 61, .ref 100], (SS b c), X1, J, 0, 0)) rfl trivial ?_
              refine r_callV okX12_readCompared okX12_isSign [.int 61] [] 100 rfl rfl rfl kkX12_isSign rfl rfl (by decide) rfl rfl rfl (by decide) ⟨Nat.le_refl _, Nat.le_refl _⟩ (Nat.le_of_ble_eq_true rfl) (c_isSign1 γ p1 61 rfl k61) (fun v1 S1 I1 J1 hp => ?_)
              obtain ⟨rfl, rfl, rfl, rfl⟩ := hp
              show Rj _ _ _ _ _ _ (25, [some (.ref 100), none], [.int 1], (SS b c), X1, J, 0, 0)
              refine r_ifc okX12_readCompared rfl (fun (h25 : ¬ (1 : Int32) = (0 : Int32)) => ?_) (fun h250 => ?_)
              · refine r_run okX12_readCompared 3 (cs := []) (σ' := (49, [some (.ref 100), none], [.int 60, .int (X1 100 27)], (SS b c), X1, J, 0, 0)) rfl trivial ?_
                simp only [hv]
                show Rj _ _ _ _ _ _ (49, [some (.ref 100), none], [.int 60, .int 61], (SS b c), X1, J, 0, 0)
                refine r_icmp okX12_readCompared rfl (fun (h49 : ¬ (61 : Int32) = (60 : Int32)) => ?_) (fun h490 => ?_)
                · refine r_run okX12_readCompared 3 (cs := []) (σ' := (63, [some (.ref 100), none], [.int 61, .int (X1 100 27)], (SS b c), X1, J, 0, 0)) rfl trivial ?_
                  simp only [hv]
                  show Rj _ _ _ _ _ _ (63, [some (.ref 100), none], [.int 61, .int 61], (SS b c), X1, J, 0, 0)
                  refine r_icmp okX12_readCompared rfl (fun (h63 : ¬ (61 : Int32) = (61 : Int32)) => ?_) (fun h630 => ?_)
                  · exact absurd h63 (by decide)
                  · have h63 : (61 : Int32) = (61 : Int32) := Classical.not_not.mp h630
                    refine r_run okX12_readCompared 4 (cs := []) (σ' := (75, [some (.ref 100), some (.int 7)], [.ref 100], (SS b c), X1, J, 0, 0)) rfl trivial ?_
                    refine r_callV okX12_readCompared okX12_next [] [] 100 rfl rfl rfl kkX12_next rfl rfl (by decide) rfl rfl rfl (by decide) ⟨Nat.le_refl _, Nat.le_refl _⟩ (Nat.le_of_ble_eq_true rfl) (c_nextT γ hT p1 (by rw [k61]; decide)) (fun v1 S1 I1 J1 hp => ?_)
                    obtain ⟨rfl, rfl, ⟨X2, rfl, f2, p2⟩, rfl⟩ := hp
                    show Rj _ _ _ _ _ _ (78, [some (.ref 100), some (.int 7)], [], (SS b c), X2, J, 0, 0)
                    rcases hc5 with ⟨e, rfl, hres⟩ | ⟨q2, rfl, hres⟩
                    · refine r_run okX12_readCompared 1 (cs := []) (σ' := (79, [some (.ref 100), some (.int 7)], [.ref 100], (SS b c), X2, J, 0, 0)) rfl trivial ?_
                      refine r_callV okX12_readCompared okX12_readSum [] [] 100 rfl rfl rfl kkX12_readSum rfl rfl (by decide) rfl rfl rfl (by decide) ⟨Nat.le_refl _, Nat.le_refl _⟩ (Nat.le_of_ble_eq_true rfl) (ct_F γ rfl (c_readSum γ hT p2 (Out_4 f2 o1) (by rw [List.length_append]; omega) (.inl e) hs2)) (fun v1 S1 I1 J1 hp => ?_)
                      obtain ⟨rfl, rfl, ⟨X3, rfl, f3, e1, e2⟩, rfl⟩ := hp
                      show Rj _ _ _ _ _ _ (82, [some (.ref 100), some (.int 7)], [.int (-1)], (SS b c), X3, J, 0, 0)
                      refine r_run okX12_readCompared 1 (cs := []) (σ' := (83, [some (.ref 100), some (.int 7)], [.int (-1), .int (-1)], (SS b c), X3, J, 0, 0)) rfl trivial ?_
                      refine r_icmp okX12_readCompared rfl (fun (h83 : ¬ ((-1) : Int32) = ((-1) : Int32)) => ?_) (fun h830 => ?_)
                      · exact absurd h83 (by decide)
                      · have h83 : ((-1) : Int32) = ((-1) : Int32) := Classical.not_not.mp h830
                        refine r_run okX12_readCompared 1 (cs := []) (σ' := (87, [some (.ref 100), some (.int 7)], [.int (-1)], (SS b c), X3, J, 0, 0)) rfl trivial ?_
                        refine r_iret okX12_readCompared rfl rfl rfl (Nat.le_refl _) (Nat.le_refl _) ?_
                        refine ⟨rfl, rfl, ?_⟩
                        rw [hres]
                        exact ⟨rfl, fr_t f1 (fr_t (f4_P f2) f3), e1, e2⟩
                    · refine r_run okX12_readCompared 1 (cs := []) (σ' := (79, [some (.ref 100), some (.int 7)], [.ref 100], (SS b c), X2, J, 0, 0)) rfl trivial ?_
                      refine r_callV okX12_readCompared okX12_readSum [] [] 100 rfl rfl rfl kkX12_readSum rfl rfl (by decide) rfl rfl rfl (by decide) ⟨Nat.le_refl _, Nat.le_refl _⟩ (Nat.le_of_ble_eq_true rfl) (ct_S γ rfl (c_readSum γ hT p2 (Out_4 f2 o1) (by rw [List.length_append]; omega) (.inr q2) hs2)) (fun v1 S1 I1 J1 hp => ?_)
                      obtain ⟨rfl, rfl, ⟨X3, rfl, f3, p3, o3, k3⟩, rfl⟩ := hp
                      have hql2 := Sm_len hs2
                      show Rj _ _ _ _ _ _ (82, [some (.ref 100), some (.int 7)], [.int 0], (SS b c), X3, J, 0, 0)
                      refine r_run okX12_readCompared 1 (cs := []) (σ' := (83, [some (.ref 100), some (.int 7)], [.int (-1), .int 0], (SS b c), X3, J, 0, 0)) rfl trivial ?_
                      refine r_icmp okX12_readCompared rfl (fun (h83 : ¬ (0 : Int32) = ((-1) : Int32)) => ?_) (fun h830 => ?_)
                      · refine r_run okX12_readCompared 3 (cs := []) (σ' := (91, [some (.ref 100), some (.int 7)], [.int 0, .int 7, .ref 100], (SS b c), X3, J, 0, 0)) rfl trivial ?_
                        refine r_callV okX12_readCompared okX12_emits [.int 7, .int 0] [] 100 rfl rfl rfl kkX12_emits rfl rfl (by decide) rfl rfl rfl (by decide) ⟨Nat.le_refl _, Nat.le_refl _⟩ (Nat.le_of_ble_eq_true rfl) (c_emits γ _ o3 (by rw [List.length_append, List.length_append]; have := hT.1; have := p3.2.2.2.1; omega) 7 0) (fun v1 S1 I1 J1 hp => ?_)
                        obtain ⟨rfl, rfl, ⟨X4, rfl, f4, o4⟩, rfl⟩ := hp
                        show Rj _ _ _ _ _ _ (94, [some (.ref 100), some (.int 7)], [], (SS b c), X4, J, 0, 0)
                        refine r_run okX12_readCompared 1 (cs := []) (σ' := (95, [some (.ref 100), some (.int 7)], [.int 0], (SS b c), X4, J, 0, 0)) rfl trivial ?_
                        refine r_iret okX12_readCompared rfl rfl rfl (Nat.le_refl _) (Nat.le_refl _) ?_
                        refine ⟨rfl, rfl, ?_⟩
                        rw [hres]
                        refine ⟨rfl, fr_t f1 (fr_t (f4_P f2) (fr_t f3 (fE_P f4))), PSt_E f4 p3, ?_, kp_t k1 (kp_t (kp_4 f2) (kp_t k3 (kp_E f4)))⟩
                        rw [k61, flt_app, flt_app, ← List.append_assoc, ← List.append_assoc]
                        exact o4
                      · have h83 : (0 : Int32) = ((-1) : Int32) := Classical.not_not.mp h830
                        exact absurd h83 (by decide)
                · have h49 : (61 : Int32) = (60 : Int32) := Classical.not_not.mp h490
                  exact absurd h49 (by decide)
              · have h25 : (1 : Int32) = (0 : Int32) := Classical.not_not.mp h250
                exact absurd h25 (by decide)
        · by_cases k62 : kK T n q.2 = 62
          · have hv : X1 100 27 = 62 := ((toR_sg p1.2.2.2.2.2.2 (c := 62) rfl).mpr k62).2
            rw [show isCm (kK T n q.2) = true by rw [k62]; decide] at hc3
            rcases hc3 with ⟨h, -⟩ | ⟨-, r2, hs2, hc5⟩
            · cases h
            · refine r_run okX12_readCompared 2 (cs := []) (σ' := (13, [some (.ref 100), none], [.int 60, .ref 100], (SS b c), X1, J, 0, 0)) rfl trivial ?_
              refine r_callV okX12_readCompared okX12_isSign [.int 60] [] 100 rfl rfl rfl kkX12_isSign rfl rfl (by decide) rfl rfl rfl (by decide) ⟨Nat.le_refl _, Nat.le_refl _⟩ (Nat.le_of_ble_eq_true rfl) (c_isSign0 γ p1 60 rfl k60) (fun v1 S1 I1 J1 hp => ?_)
              obtain ⟨rfl, rfl, rfl, rfl⟩ := hp
              show Rj _ _ _ _ _ _ (16, [some (.ref 100), none], [.int 0], (SS b c), X1, J, 0, 0)
              refine r_ifc okX12_readCompared rfl (fun (h16 : ¬ (0 : Int32) = (0 : Int32)) => ?_) (fun h160 => ?_)
              · exact absurd h16 (by decide)
              · have h16 : (0 : Int32) = (0 : Int32) := Classical.not_not.mp h160
                refine r_run okX12_readCompared 2 (cs := []) (σ' := (22, [some (.ref 100), none], [.int 61, .ref 100], (SS b c), X1, J, 0, 0)) rfl trivial ?_
                refine r_callV okX12_readCompared okX12_isSign [.int 61] [] 100 rfl rfl rfl kkX12_isSign rfl rfl (by decide) rfl rfl rfl (by decide) ⟨Nat.le_refl _, Nat.le_refl _⟩ (Nat.le_of_ble_eq_true rfl) (c_isSign0 γ p1 61 rfl k61) (fun v1 S1 I1 J1 hp => ?_)
                obtain ⟨rfl, rfl, rfl, rfl⟩ := hp
                show Rj _ _ _ _ _ _ (25, [some (.ref 100), none], [.int 0], (SS b c), X1, J, 0, 0)
                refine r_ifc okX12_readCompared rfl (fun (h25 : ¬ (0 : Int32) = (0 : Int32)) => ?_) (fun h250 => ?_)
                · exact absurd h25 (by decide)
                · have h25 : (0 : Int32) = (0 : Int32) := Classical.not_not.mp h250
                  refine r_run okX12_readCompared 2 (cs := []) (σ' := (31, [some (.ref 100), none], [.int 62, .ref 100], (SS b c), X1, J, 0, 0)) rfl trivial ?_
                  refine r_callV okX12_readCompared okX12_isSign [.int 62] [] 100 rfl rfl rfl kkX12_isSign rfl rfl (by decide) rfl rfl rfl (by decide) ⟨Nat.le_refl _, Nat.le_refl _⟩ (Nat.le_of_ble_eq_true rfl) (c_isSign1 γ p1 62 rfl k62) (fun v1 S1 I1 J1 hp => ?_)
                  obtain ⟨rfl, rfl, rfl, rfl⟩ := hp
                  show Rj _ _ _ _ _ _ (34, [some (.ref 100), none], [.int 1], (SS b c), X1, J, 0, 0)
                  refine r_ifc okX12_readCompared rfl (fun (h34 : ¬ (1 : Int32) = (0 : Int32)) => ?_) (fun h340 => ?_)
                  · refine r_run okX12_readCompared 3 (cs := []) (σ' := (49, [some (.ref 100), none], [.int 60, .int (X1 100 27)], (SS b c), X1, J, 0, 0)) rfl trivial ?_
                    simp only [hv]
                    show Rj _ _ _ _ _ _ (49, [some (.ref 100), none], [.int 60, .int 62], (SS b c), X1, J, 0, 0)
                    refine r_icmp okX12_readCompared rfl (fun (h49 : ¬ (62 : Int32) = (60 : Int32)) => ?_) (fun h490 => ?_)
                    · refine r_run okX12_readCompared 3 (cs := []) (σ' := (63, [some (.ref 100), none], [.int 61, .int (X1 100 27)], (SS b c), X1, J, 0, 0)) rfl trivial ?_
                      simp only [hv]
                      show Rj _ _ _ _ _ _ (63, [some (.ref 100), none], [.int 61, .int 62], (SS b c), X1, J, 0, 0)
                      refine r_icmp okX12_readCompared rfl (fun (h63 : ¬ (62 : Int32) = (61 : Int32)) => ?_) (fun h630 => ?_)
                      · refine r_run okX12_readCompared 3 (cs := []) (σ' := (75, [some (.ref 100), some (.int 8)], [.ref 100], (SS b c), X1, J, 0, 0)) rfl trivial ?_
                        refine r_callV okX12_readCompared okX12_next [] [] 100 rfl rfl rfl kkX12_next rfl rfl (by decide) rfl rfl rfl (by decide) ⟨Nat.le_refl _, Nat.le_refl _⟩ (Nat.le_of_ble_eq_true rfl) (c_nextT γ hT p1 (by rw [k62]; decide)) (fun v1 S1 I1 J1 hp => ?_)
                        obtain ⟨rfl, rfl, ⟨X2, rfl, f2, p2⟩, rfl⟩ := hp
                        show Rj _ _ _ _ _ _ (78, [some (.ref 100), some (.int 8)], [], (SS b c), X2, J, 0, 0)
                        rcases hc5 with ⟨e, rfl, hres⟩ | ⟨q2, rfl, hres⟩
                        · refine r_run okX12_readCompared 1 (cs := []) (σ' := (79, [some (.ref 100), some (.int 8)], [.ref 100], (SS b c), X2, J, 0, 0)) rfl trivial ?_
                          refine r_callV okX12_readCompared okX12_readSum [] [] 100 rfl rfl rfl kkX12_readSum rfl rfl (by decide) rfl rfl rfl (by decide) ⟨Nat.le_refl _, Nat.le_refl _⟩ (Nat.le_of_ble_eq_true rfl) (ct_F γ rfl (c_readSum γ hT p2 (Out_4 f2 o1) (by rw [List.length_append]; omega) (.inl e) hs2)) (fun v1 S1 I1 J1 hp => ?_)
                          obtain ⟨rfl, rfl, ⟨X3, rfl, f3, e1, e2⟩, rfl⟩ := hp
                          show Rj _ _ _ _ _ _ (82, [some (.ref 100), some (.int 8)], [.int (-1)], (SS b c), X3, J, 0, 0)
                          refine r_run okX12_readCompared 1 (cs := []) (σ' := (83, [some (.ref 100), some (.int 8)], [.int (-1), .int (-1)], (SS b c), X3, J, 0, 0)) rfl trivial ?_
                          refine r_icmp okX12_readCompared rfl (fun (h83 : ¬ ((-1) : Int32) = ((-1) : Int32)) => ?_) (fun h830 => ?_)
                          · exact absurd h83 (by decide)
                          · have h83 : ((-1) : Int32) = ((-1) : Int32) := Classical.not_not.mp h830
                            refine r_run okX12_readCompared 1 (cs := []) (σ' := (87, [some (.ref 100), some (.int 8)], [.int (-1)], (SS b c), X3, J, 0, 0)) rfl trivial ?_
                            refine r_iret okX12_readCompared rfl rfl rfl (Nat.le_refl _) (Nat.le_refl _) ?_
                            refine ⟨rfl, rfl, ?_⟩
                            rw [hres]
                            exact ⟨rfl, fr_t f1 (fr_t (f4_P f2) f3), e1, e2⟩
                        · refine r_run okX12_readCompared 1 (cs := []) (σ' := (79, [some (.ref 100), some (.int 8)], [.ref 100], (SS b c), X2, J, 0, 0)) rfl trivial ?_
                          refine r_callV okX12_readCompared okX12_readSum [] [] 100 rfl rfl rfl kkX12_readSum rfl rfl (by decide) rfl rfl rfl (by decide) ⟨Nat.le_refl _, Nat.le_refl _⟩ (Nat.le_of_ble_eq_true rfl) (ct_S γ rfl (c_readSum γ hT p2 (Out_4 f2 o1) (by rw [List.length_append]; omega) (.inr q2) hs2)) (fun v1 S1 I1 J1 hp => ?_)
                          obtain ⟨rfl, rfl, ⟨X3, rfl, f3, p3, o3, k3⟩, rfl⟩ := hp
                          have hql2 := Sm_len hs2
                          show Rj _ _ _ _ _ _ (82, [some (.ref 100), some (.int 8)], [.int 0], (SS b c), X3, J, 0, 0)
                          refine r_run okX12_readCompared 1 (cs := []) (σ' := (83, [some (.ref 100), some (.int 8)], [.int (-1), .int 0], (SS b c), X3, J, 0, 0)) rfl trivial ?_
                          refine r_icmp okX12_readCompared rfl (fun (h83 : ¬ (0 : Int32) = ((-1) : Int32)) => ?_) (fun h830 => ?_)
                          · refine r_run okX12_readCompared 3 (cs := []) (σ' := (91, [some (.ref 100), some (.int 8)], [.int 0, .int 8, .ref 100], (SS b c), X3, J, 0, 0)) rfl trivial ?_
                            refine r_callV okX12_readCompared okX12_emits [.int 8, .int 0] [] 100 rfl rfl rfl kkX12_emits rfl rfl (by decide) rfl rfl rfl (by decide) ⟨Nat.le_refl _, Nat.le_refl _⟩ (Nat.le_of_ble_eq_true rfl) (c_emits γ _ o3 (by rw [List.length_append, List.length_append]; have := hT.1; have := p3.2.2.2.1; omega) 8 0) (fun v1 S1 I1 J1 hp => ?_)
                            obtain ⟨rfl, rfl, ⟨X4, rfl, f4, o4⟩, rfl⟩ := hp
                            show Rj _ _ _ _ _ _ (94, [some (.ref 100), some (.int 8)], [], (SS b c), X4, J, 0, 0)
                            refine r_run okX12_readCompared 1 (cs := []) (σ' := (95, [some (.ref 100), some (.int 8)], [.int 0], (SS b c), X4, J, 0, 0)) rfl trivial ?_
                            refine r_iret okX12_readCompared rfl rfl rfl (Nat.le_refl _) (Nat.le_refl _) ?_
                            refine ⟨rfl, rfl, ?_⟩
                            rw [hres]
                            refine ⟨rfl, fr_t f1 (fr_t (f4_P f2) (fr_t f3 (fE_P f4))), PSt_E f4 p3, ?_, kp_t k1 (kp_t (kp_4 f2) (kp_t k3 (kp_E f4)))⟩
                            rw [k62, flt_app, flt_app, ← List.append_assoc, ← List.append_assoc]
                            exact o4
                          · have h83 : (0 : Int32) = ((-1) : Int32) := Classical.not_not.mp h830
                            exact absurd h83 (by decide)
                      · have h63 : (62 : Int32) = (61 : Int32) := Classical.not_not.mp h630
                        exact absurd h63 (by decide)
                    · have h49 : (62 : Int32) = (60 : Int32) := Classical.not_not.mp h490
                      exact absurd h49 (by decide)
                  · have h34 : (1 : Int32) = (0 : Int32) := Classical.not_not.mp h340
                    exact absurd h34 (by decide)
          · rw [show isCm (kK T n q.2) = false by unfold isCm; rw [decide_eq_false k60, decide_eq_false k61, decide_eq_false k62]; rfl] at hc3
            rcases hc3 with ⟨-, hres⟩ | ⟨h, -⟩
            · refine r_run okX12_readCompared 2 (cs := []) (σ' := (13, [some (.ref 100), none], [.int 60, .ref 100], (SS b c), X1, J, 0, 0)) rfl trivial ?_
              refine r_callV okX12_readCompared okX12_isSign [.int 60] [] 100 rfl rfl rfl kkX12_isSign rfl rfl (by decide) rfl rfl rfl (by decide) ⟨Nat.le_refl _, Nat.le_refl _⟩ (Nat.le_of_ble_eq_true rfl) (c_isSign0 γ p1 60 rfl k60) (fun v1 S1 I1 J1 hp => ?_)
              obtain ⟨rfl, rfl, rfl, rfl⟩ := hp
              show Rj _ _ _ _ _ _ (16, [some (.ref 100), none], [.int 0], (SS b c), X1, J, 0, 0)
              refine r_ifc okX12_readCompared rfl (fun (h16 : ¬ (0 : Int32) = (0 : Int32)) => ?_) (fun h160 => ?_)
              · exact absurd h16 (by decide)
              · have h16 : (0 : Int32) = (0 : Int32) := Classical.not_not.mp h160
                refine r_run okX12_readCompared 2 (cs := []) (σ' := (22, [some (.ref 100), none], [.int 61, .ref 100], (SS b c), X1, J, 0, 0)) rfl trivial ?_
                refine r_callV okX12_readCompared okX12_isSign [.int 61] [] 100 rfl rfl rfl kkX12_isSign rfl rfl (by decide) rfl rfl rfl (by decide) ⟨Nat.le_refl _, Nat.le_refl _⟩ (Nat.le_of_ble_eq_true rfl) (c_isSign0 γ p1 61 rfl k61) (fun v1 S1 I1 J1 hp => ?_)
                obtain ⟨rfl, rfl, rfl, rfl⟩ := hp
                show Rj _ _ _ _ _ _ (25, [some (.ref 100), none], [.int 0], (SS b c), X1, J, 0, 0)
                refine r_ifc okX12_readCompared rfl (fun (h25 : ¬ (0 : Int32) = (0 : Int32)) => ?_) (fun h250 => ?_)
                · exact absurd h25 (by decide)
                · have h25 : (0 : Int32) = (0 : Int32) := Classical.not_not.mp h250
                  refine r_run okX12_readCompared 2 (cs := []) (σ' := (31, [some (.ref 100), none], [.int 62, .ref 100], (SS b c), X1, J, 0, 0)) rfl trivial ?_
                  refine r_callV okX12_readCompared okX12_isSign [.int 62] [] 100 rfl rfl rfl kkX12_isSign rfl rfl (by decide) rfl rfl rfl (by decide) ⟨Nat.le_refl _, Nat.le_refl _⟩ (Nat.le_of_ble_eq_true rfl) (c_isSign0 γ p1 62 rfl k62) (fun v1 S1 I1 J1 hp => ?_)
                  obtain ⟨rfl, rfl, rfl, rfl⟩ := hp
                  show Rj _ _ _ _ _ _ (34, [some (.ref 100), none], [.int 0], (SS b c), X1, J, 0, 0)
                  refine r_ifc okX12_readCompared rfl (fun (h34 : ¬ (0 : Int32) = (0 : Int32)) => ?_) (fun h340 => ?_)
                  · exact absurd h34 (by decide)
                  · have h34 : (0 : Int32) = (0 : Int32) := Classical.not_not.mp h340
                    refine r_run okX12_readCompared 2 (cs := []) (σ' := (39, [some (.ref 100), none], [.int 1, .ref 100], (SS b c), X1, J, 0, 0)) rfl trivial ?_
                    refine r_callV okX12_readCompared okX12_fails [.int 1] [] 100 rfl rfl rfl kkX12_fails rfl rfl (by decide) rfl rfl rfl (by decide) ⟨Nat.le_refl _, Nat.le_refl _⟩ (Nat.le_of_ble_eq_true rfl) (c_fails γ 1) (fun v1 S1 I1 J1 hp => ?_)
                    obtain ⟨rfl, rfl, ⟨X2, rfl, f2, e1, e2⟩, rfl⟩ := hp
                    show Rj _ _ _ _ _ _ (42, [some (.ref 100), none], [.int (-1)], (SS b c), X2, J, 0, 0)
                    refine r_iret okX12_readCompared rfl rfl rfl (Nat.le_refl _) (Nat.le_refl _) ?_
                    refine ⟨rfl, rfl, ?_⟩
                    rw [hres]
                    exact ⟨rfl, fr_t f1 (fF_P f2), e1, e2.trans p1.2.2.2.2.2.1⟩
            · cases h
    · have h5 : (0 : Int32) = ((-1) : Int32) := Classical.not_not.mp h50
      exact absurd h5 (by decide)
