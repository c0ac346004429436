/-! ===== the office reads: sums ===== -/
theorem app_n {l : Cd} : l ++ [] = l := List.append_nil l
theorem dR_l1 {T : Nat → Int32} {n i : Nat} {q : Cd × Nat} (h : dR T n i = .inr q) : q.2 = i + 1 ∧ q.1.length = 1 ∧ kK T n i = 16 ∧ ¬ kV T n i = 0 ∧ q.1 = [(5, kV T n i)] := by
  unfold dR at h
  split at h
  · split at h
    · cases h
    · rename_i h1 h2; cases h; exact ⟨rfl, rfl, h1, h2, rfl⟩
  · cases h
theorem sm_end0_79 (γ : GE) {b : Bool} {J : AJ} {T : Nat → Int32} {n N i0 : Nat} {l : Cd} {X0 : AI} {X : AI} {i k : Nat} {acc : Cd} (h1 : ¬ kK T n i = 43) (h2 : ¬ kK T n i = 45) (h3 : ¬ kK T n i = 42) (h4 : ¬ kK T n i = 47) (hT : Tkn T n N X) (hP : PsO T n N X i) (hO : OuO X 79 (l ++ acc)) (hl : (l ++ acc).length + (wC none).length ≤ i) (hk : k ≤ i) (hf : fr (qX 79) X0 X) (hd : ∀ res, (∃ f, SmT T n f none i acc res) → Sm T n i0 res) : Rj γ mX5_readSum 2 0 0 (fun r S' I' J' => (SS b true) = S' ∧ J = J' ∧ ∃ res, Sm T n i0 res ∧ RsO T n N 79 X0 l res r I') (10, [some (.ref 95), some (.int 1), some (.int 18), some (.int (nI k)), none, none], [], (SS b true), X, J, 0, 0) := by
  have hlw : (wC none).length = 0 := rfl
  have hN := hT.1
  have hiN := hP.1
  have e7 := hP.2.2.1
  have k800 : k ≤ 800 := by omega
  refine r_run okX5_readSum 2 (cs := []) (σ' := (14, [some (.ref 95), some (.int 1), some (.int 18), some (.int (nI k)), none, none], [.int 800, .int (nI k)], (SS b true), X, J, 0, 0)) rfl trivial ?_
  refine r_icmp okX5_readSum rfl (fun (h14 : (800 : Int32) ≤ (nI k)) => ?_) (fun (h14 : ¬ (800 : Int32) ≤ (nI k)) => ?_)
  · refine r_run okX5_readSum 2 (cs := []) (σ' := (140, [some (.ref 95), some (.int 1), some (.int 18), some (.int (nI k)), none, none], [.int 18, .int 18], (SS b true), X, J, 0, 0)) rfl trivial ?_
    refine r_icmp okX5_readSum rfl (fun (h140 : (18 : Int32) = (18 : Int32)) => ?_) (fun (h140 : ¬ (18 : Int32) = (18 : Int32)) => ?_)
    · refine r_run okX5_readSum 1 (cs := []) (σ' := (154, [some (.ref 95), some (.int 1), some (.int 18), some (.int (nI k)), none, none], [.int 1], (SS b true), X, J, 0, 0)) rfl trivial ?_
      refine r_iret okX5_readSum rfl rfl (by decide +kernel) (Nat.le_refl _) (Nat.le_refl _) ?_
      have hs : SmT T n 1 none i acc (.inr (acc ++ wC none, i)) := by
        unfold SmT; rw [if_neg (fun z => z.elim h1 h2), if_neg h3, if_neg h4]
      exact ⟨rfl, rfl, _, hd _ ⟨1, hs⟩, hf, rfl, hP, by show OuO X 79 (l ++ (acc ++ [])); rw [app_n]; exact hO⟩
    · exact absurd h140 (by decide)
  · refine r_run okX5_readSum 1 (cs := []) (σ' := (18, [some (.ref 95), some (.int 1), some (.int 18), some (.int (nI k)), none, none], [.int 1], (SS b true), X, J, 0, 0)) rfl trivial ?_
    refine r_ifc okX5_readSum rfl (fun (h18 : (1 : Int32) = (0 : Int32)) => ?_) (fun (h18 : ¬ (1 : Int32) = (0 : Int32)) => ?_)
    · exact absurd h18 (by decide)
    · refine r_run okX5_readSum 2 (cs := []) (σ' := (25, [some (.ref 95), some (.int 1), some (.int 18), some (.int (nI k)), none, none], [.int (X 95 7)], (SS b true), X, J, 0, 0)) rfl trivial ?_
      simp only [e7]
      show Rj _ _ _ _ _ _ (25, [some (.ref 95), some (.int 1), some (.int 18), some (.int (nI k)), none, none], [.int (kK T n i)], (SS b true), X, J, 0, 0)
      refine r_callS okX5_readSum okX5_isReckoning [.int (kK T n i)] [] rfl rfl rfl kkX5_isReckoning rfl rfl (by decide) (by decide) ⟨Nat.le_refl _, Nat.le_refl _⟩ (Nat.le_of_ble_eq_true rfl) (b_rkn γ h1 h2 h3 h4) (fun v1 S1 I1 J1 hp => ?_)
      obtain ⟨rfl, rfl, rfl, rfl⟩ := hp
      show Rj _ _ _ _ _ _ (28, [some (.ref 95), some (.int 1), some (.int 18), some (.int (nI k)), none, none], [.int 0], (SS b true), X, J, 0, 0)
      refine r_ifc okX5_readSum rfl (fun (h28 : (0 : Int32) = (0 : Int32)) => ?_) (fun (h28 : ¬ (0 : Int32) = (0 : Int32)) => ?_)
      · refine r_run okX5_readSum 2 (cs := []) (σ' := (140, [some (.ref 95), some (.int 1), some (.int 18), some (.int (nI k)), none, none], [.int 18, .int 18], (SS b true), X, J, 0, 0)) rfl trivial ?_
        refine r_icmp okX5_readSum rfl (fun (h140_1 : (18 : Int32) = (18 : Int32)) => ?_) (fun (h140_1 : ¬ (18 : Int32) = (18 : Int32)) => ?_)
        · refine r_run okX5_readSum 1 (cs := []) (σ' := (154, [some (.ref 95), some (.int 1), some (.int 18), some (.int (nI k)), none, none], [.int 1], (SS b true), X, J, 0, 0)) rfl trivial ?_
          refine r_iret okX5_readSum rfl rfl (by decide +kernel) (Nat.le_refl _) (Nat.le_refl _) ?_
          have hs : SmT T n 1 none i acc (.inr (acc ++ wC none, i)) := by
            unfold SmT; rw [if_neg (fun z => z.elim h1 h2), if_neg h3, if_neg h4]
          exact ⟨rfl, rfl, _, hd _ ⟨1, hs⟩, hf, rfl, hP, by show OuO X 79 (l ++ (acc ++ [])); rw [app_n]; exact hO⟩
        · exact absurd h140_1 (by decide)
      · exact absurd h28 (by decide)
theorem sm_43_0_79 (γ : GE) {b : Bool} {J : AJ} {T : Nat → Int32} {n N i0 : Nat} {l : Cd} {X0 : AI} {X : AI} {i k : Nat} {acc : Cd} (h : kK T n i = 43) (hT : Tkn T n N X) (hP : PsO T n N X i) (hO : OuO X 79 (l ++ acc)) (hl : (l ++ acc).length + (wC none).length ≤ i) (hk : k ≤ i) (hf : fr (qX 79) X0 X) (hd : ∀ res, (∃ f, SmT T n f none i acc res) → Sm T n i0 res) (K : ∀ (q : Cd × Nat) (Y : AI), uR T n (i + 1) = .inr q → Tkn T n N Y → PsO T n N Y q.2 → OuO Y 79 (l ++ (acc ++ wC none ++ q.1)) → fr (qX 79) X0 Y → Rj γ mX5_readSum 2 0 0 (fun r S' I' J' => (SS b true) = S' ∧ J = J' ∧ ∃ res, Sm T n i0 res ∧ RsO T n N 79 X0 l res r I') (10, [some (.ref 95), some (.int 1), some (.int 43), some (.int (nI (k + 1))), none, none], [], (SS b true), Y, J, 0, 0)) : Rj γ mX5_readSum 2 0 0 (fun r S' I' J' => (SS b true) = S' ∧ J = J' ∧ ∃ res, Sm T n i0 res ∧ RsO T n N 79 X0 l res r I') (10, [some (.ref 95), some (.int 1), some (.int 18), some (.int (nI k)), none, none], [], (SS b true), X, J, 0, 0) := by
  have hlw : (wC none).length = 0 := rfl
  have hN := hT.1
  have hiN := hP.1
  have e7 : X 95 7 = 43 := hP.2.2.1.trans h
  have hi : i < N := kK_lt hT hiN (by rw [h]; decide)
  refine r_run okX5_readSum 2 (cs := []) (σ' := (14, [some (.ref 95), some (.int 1), some (.int 18), some (.int (nI k)), none, none], [.int 800, .int (nI k)], (SS b true), X, J, 0, 0)) rfl trivial ?_
  refine r_icmp okX5_readSum rfl (fun (h14 : (800 : Int32) ≤ (nI k)) => ?_) (fun (h14 : ¬ (800 : Int32) ≤ (nI k)) => ?_)
  · exact absurd h14 (nI_ge (b := 800) (by omega) (by decide))
  · refine r_run okX5_readSum 1 (cs := []) (σ' := (18, [some (.ref 95), some (.int 1), some (.int 18), some (.int (nI k)), none, none], [.int 1], (SS b true), X, J, 0, 0)) rfl trivial ?_
    refine r_ifc okX5_readSum rfl (fun (h18 : (1 : Int32) = (0 : Int32)) => ?_) (fun (h18 : ¬ (1 : Int32) = (0 : Int32)) => ?_)
    · exact absurd h18 (by decide)
    · refine r_run okX5_readSum 2 (cs := []) (σ' := (25, [some (.ref 95), some (.int 1), some (.int 18), some (.int (nI k)), none, none], [.int (X 95 7)], (SS b true), X, J, 0, 0)) rfl trivial ?_
      simp only [e7]
      show Rj _ _ _ _ _ _ (25, [some (.ref 95), some (.int 1), some (.int 18), some (.int (nI k)), none, none], [.int 43], (SS b true), X, J, 0, 0)
      refine r_callS okX5_readSum okX5_isReckoning [.int 43] [] rfl rfl rfl kkX5_isReckoning rfl rfl (by decide) (by decide) ⟨Nat.le_refl _, Nat.le_refl _⟩ (Nat.le_of_ble_eq_true rfl) (b_rk43 γ) (fun v1 S1 I1 J1 hp => ?_)
      obtain ⟨rfl, rfl, rfl, rfl⟩ := hp
      show Rj _ _ _ _ _ _ (28, [some (.ref 95), some (.int 1), some (.int 18), some (.int (nI k)), none, none], [.int 1], (SS b true), X, J, 0, 0)
      refine r_ifc okX5_readSum rfl (fun (h28 : (1 : Int32) = (0 : Int32)) => ?_) (fun (h28 : ¬ (1 : Int32) = (0 : Int32)) => ?_)
      · exact absurd h28 (by decide)
      · refine r_run okX5_readSum 5 (cs := []) (σ' := (41, [some (.ref 95), some (.int 1), some (.int 18), some (.int (nI k)), some (.int (X 95 7)), none], [.int 43, .int (X 95 7)], (SS b true), X, J, 0, 0)) rfl trivial ?_
        simp only [e7]
        show Rj _ _ _ _ _ _ (41, [some (.ref 95), some (.int 1), some (.int 18), some (.int (nI k)), some (.int 43), none], [.int 43, .int 43], (SS b true), X, J, 0, 0)
        refine r_icmp okX5_readSum rfl (fun (h41 : (43 : Int32) = (43 : Int32)) => ?_) (fun (h41 : ¬ (43 : Int32) = (43 : Int32)) => ?_)
        · refine r_run okX5_readSum 4 (cs := []) (σ' := (60, [some (.ref 95), some (.int 1), some (.int 18), some (.int (nI k)), some (.int 43), some (.int 1)], [.int 1], (SS b true), X, J, 0, 0)) rfl trivial ?_
          refine r_ifc okX5_readSum rfl (fun (h60 : (1 : Int32) = (0 : Int32)) => ?_) (fun (h60 : ¬ (1 : Int32) = (0 : Int32)) => ?_)
          · exact absurd h60 (by decide)
          · refine r_run okX5_readSum 2 (cs := []) (σ' := (66, [some (.ref 95), some (.int 1), some (.int 18), some (.int (nI k)), some (.int 43), some (.int 1)], [.int 18, .int 18], (SS b true), X, J, 0, 0)) rfl trivial ?_
            refine r_icmp okX5_readSum rfl (fun (h66 : (18 : Int32) = (18 : Int32)) => ?_) (fun (h66 : ¬ (18 : Int32) = (18 : Int32)) => ?_)
            · refine r_run okX5_readSum 1 (cs := []) (σ' := (80, [some (.ref 95), some (.int 1), some (.int 18), some (.int (nI k)), some (.int 43), some (.int 1)], [.ref 95], (SS b true), X, J, 0, 0)) rfl trivial ?_
              refine r_callV okX5_readSum okX5_advance [] [] 95 rfl rfl rfl kkX5_advance rfl rfl (by decide) rfl rfl rfl (by decide) ⟨Nat.le_refl _, Nat.le_refl _⟩ (Nat.le_of_ble_eq_true rfl) (b_adv79 γ hT hP hi) (fun v1 S1 I1 J1 hp => ?_)
              obtain ⟨rfl, rfl, ⟨fXa, pXa⟩, rfl⟩ := hp
              obtain ⟨Xa, eXa⟩ : ∃ z, z = I1 := ⟨_, rfl⟩
              subst eXa
              have hTa : Tkn T n N Xa := Tkn_k (A := 79) (by decide) (f9_X fXa) hT
              have hOa := OuO_9 (by decide) fXa hO
              have hfa : fr (qX 79) X0 Xa := fr_t hf (f9_X fXa)
              show Rj _ _ _ _ _ _ (83, [some (.ref 95), some (.int 1), some (.int 18), some (.int (nI k)), some (.int 43), some (.int 1)], [], (SS b true), Xa, J, 0, 0)
              refine r_run okX5_readSum 2 (cs := []) (σ' := (87, [some (.ref 95), some (.int 1), some (.int 18), some (.int (nI k)), some (.int 43), some (.int 1)], [.int 47, .int 43], (SS b true), Xa, J, 0, 0)) rfl trivial ?_
              refine r_icmp okX5_readSum rfl (fun (h87 : ¬ (43 : Int32) = (47 : Int32)) => ?_) (fun h870 => ?_)
              · refine r_run okX5_readSum 1 (cs := []) (σ' := (98, [some (.ref 95), some (.int 1), some (.int 18), some (.int (nI k)), some (.int 43), some (.int 1)], [.ref 95], (SS b true), Xa, J, 0, 0)) rfl trivial ?_
                refine r_callV okX5_readSum okX5_readUnit [] [] 95 rfl rfl rfl kkX5_readUnit rfl rfl (by decide) rfl rfl rfl (by decide) ⟨Nat.le_refl _, Nat.le_refl _⟩ (Nat.le_of_ble_eq_true rfl) (b_unit79 γ hTa pXa hOa (by simp only [List.length_append, List.length_cons, List.length_nil] at *; omega)) (fun v1 S1 I1 J1 hp => ?_)
                obtain ⟨rfl, rfl, hfr, hr⟩ := hp
                obtain ⟨Xu, eXu⟩ : ∃ z, z = I1 := ⟨_, rfl⟩
                subst eXu
                cases hu : uR T n (i + 1) with
                | inl e =>
                  rw [hu] at hr
                  obtain ⟨rfl, gF, gE⟩ := hr
                  have hfu : fr (qX 79) X0 Xu := fr_t hfa hfr
                  have hs : SmT T n 1 none i acc (.inl e) := by unfold SmT; rw [if_pos (Or.inl h)]; simp only [hu]
                  show Rj _ _ _ _ _ _ (101, [some (.ref 95), some (.int 1), some (.int 18), some (.int (nI k)), some (.int 43), some (.int 1)], [.int 0], (SS b true), Xu, J, 0, 0)
                  refine r_run okX5_readSum 2 (cs := []) (σ' := (104, [some (.ref 95), some (.int 0), some (.int 18), some (.int (nI k)), some (.int 43), some (.int 1)], [.int 1], (SS b true), Xu, J, 0, 0)) rfl trivial ?_
                  refine r_ifc okX5_readSum rfl (fun (h104 : (1 : Int32) = (0 : Int32)) => ?_) (fun (h104 : ¬ (1 : Int32) = (0 : Int32)) => ?_)
                  · exact absurd h104 (by decide)
                  · refine r_run okX5_readSum 7 (cs := []) (σ' := (14, [some (.ref 95), some (.int 0), some (.int 43), some (.int ((nI k) + 1)), some (.int 43), some (.int 1)], [.int 800, .int ((nI k) + 1)], (SS b true), Xu, J, 0, 0)) rfl trivial ?_
                    refine r_icmp okX5_readSum rfl (fun (h14_1 : (800 : Int32) ≤ ((nI k) + 1)) => ?_) (fun (h14_1 : ¬ (800 : Int32) ≤ ((nI k) + 1)) => ?_)
                    · refine r_run okX5_readSum 2 (cs := []) (σ' := (140, [some (.ref 95), some (.int 0), some (.int 43), some (.int ((nI k) + 1)), some (.int 43), some (.int 1)], [.int 18, .int 43], (SS b true), Xu, J, 0, 0)) rfl trivial ?_
                      refine r_icmp okX5_readSum rfl (fun (h140 : (43 : Int32) = (18 : Int32)) => ?_) (fun (h140 : ¬ (43 : Int32) = (18 : Int32)) => ?_)
                      · exact absurd h140 (by decide)
                      · refine r_run okX5_readSum 4 (cs := []) (σ' := (149, [some (.ref 95), some (.int 0), some (.int 43), some (.int ((nI k) + 1)), some (.int 43), some (.int 1)], [.int 0, .int 43, .ref 79], (SS b true), Xu, J, 0, 0)) rfl trivial ?_
                        refine r_callV okX5_readSum okX6_add [.int 43, .int 0] [] 79 rfl rfl rfl kkX6_add rfl rfl (by decide) rfl rfl rfl (by decide) ⟨Nat.le_refl _, Nat.le_refl _⟩ (Nat.le_of_ble_eq_true rfl) (a_addF79 γ gF 43 0) (fun v1 S1 I1 J1 hp => ?_)
                        obtain ⟨⟨zXf1, rfl⟩, rfl, ⟨fXf1, oXf1⟩, rfl⟩ := hp
                        obtain ⟨Xf1, eXf1⟩ : ∃ z, z = I1 := ⟨_, rfl⟩
                        subst eXf1
                        show Rj _ _ _ _ _ _ (152, [some (.ref 95), some (.int 0), some (.int 43), some (.int ((nI k) + 1)), some (.int 43), some (.int 1)], [.int zXf1], (SS b true), Xf1, J, 0, 0)
                        refine r_run okX5_readSum 2 (cs := []) (σ' := (154, [some (.ref 95), some (.int 0), some (.int 43), some (.int ((nI k) + 1)), some (.int 43), some (.int 1)], [.int 0], (SS b true), Xf1, J, 0, 0)) rfl trivial ?_
                        refine r_iret okX5_readSum rfl rfl (by decide +kernel) (Nat.le_refl _) (Nat.le_refl _) ?_
                        exact ⟨rfl, rfl, .inl e, hd _ ⟨1, hs⟩, (fr_t hfu (fA_X fXf1)), rfl, oXf1, (FlO_k (by decide) fXf1 gE)⟩
                    · refine r_run okX5_readSum 1 (cs := []) (σ' := (18, [some (.ref 95), some (.int 0), some (.int 43), some (.int ((nI k) + 1)), some (.int 43), some (.int 1)], [.int 0], (SS b true), Xu, J, 0, 0)) rfl trivial ?_
                      refine r_ifc okX5_readSum rfl (fun (h18_1 : (0 : Int32) = (0 : Int32)) => ?_) (fun (h18_1 : ¬ (0 : Int32) = (0 : Int32)) => ?_)
                      · refine r_run okX5_readSum 2 (cs := []) (σ' := (140, [some (.ref 95), some (.int 0), some (.int 43), some (.int ((nI k) + 1)), some (.int 43), some (.int 1)], [.int 18, .int 43], (SS b true), Xu, J, 0, 0)) rfl trivial ?_
                        refine r_icmp okX5_readSum rfl (fun (h140_1 : (43 : Int32) = (18 : Int32)) => ?_) (fun (h140_1 : ¬ (43 : Int32) = (18 : Int32)) => ?_)
                        · exact absurd h140_1 (by decide)
                        · refine r_run okX5_readSum 4 (cs := []) (σ' := (149, [some (.ref 95), some (.int 0), some (.int 43), some (.int ((nI k) + 1)), some (.int 43), some (.int 1)], [.int 0, .int 43, .ref 79], (SS b true), Xu, J, 0, 0)) rfl trivial ?_
                          refine r_callV okX5_readSum okX6_add [.int 43, .int 0] [] 79 rfl rfl rfl kkX6_add rfl rfl (by decide) rfl rfl rfl (by decide) ⟨Nat.le_refl _, Nat.le_refl _⟩ (Nat.le_of_ble_eq_true rfl) (a_addF79 γ gF 43 0) (fun v1 S1 I1 J1 hp => ?_)
                          obtain ⟨⟨zXf1, rfl⟩, rfl, ⟨fXf1, oXf1⟩, rfl⟩ := hp
                          obtain ⟨Xf1, eXf1⟩ : ∃ z, z = I1 := ⟨_, rfl⟩
                          subst eXf1
                          show Rj _ _ _ _ _ _ (152, [some (.ref 95), some (.int 0), some (.int 43), some (.int ((nI k) + 1)), some (.int 43), some (.int 1)], [.int zXf1], (SS b true), Xf1, J, 0, 0)
                          refine r_run okX5_readSum 2 (cs := []) (σ' := (154, [some (.ref 95), some (.int 0), some (.int 43), some (.int ((nI k) + 1)), some (.int 43), some (.int 1)], [.int 0], (SS b true), Xf1, J, 0, 0)) rfl trivial ?_
                          refine r_iret okX5_readSum rfl rfl (by decide +kernel) (Nat.le_refl _) (Nat.le_refl _) ?_
                          exact ⟨rfl, rfl, .inl e, hd _ ⟨1, hs⟩, (fr_t hfu (fA_X fXf1)), rfl, oXf1, (FlO_k (by decide) fXf1 gE)⟩
                      · exact absurd h18_1 (by decide)
                | inr q =>
                  rw [hu] at hr
                  obtain ⟨rfl, gP, gO⟩ := hr
                  have hq1 := uR_l1 hu
                  have hq2 := gP.1
                  show Rj _ _ _ _ _ _ (101, [some (.ref 95), some (.int 1), some (.int 18), some (.int (nI k)), some (.int 43), some (.int 1)], [.int 1], (SS b true), Xu, J, 0, 0)
                  refine r_run okX5_readSum 2 (cs := []) (σ' := (104, [some (.ref 95), some (.int 1), some (.int 18), some (.int (nI k)), some (.int 43), some (.int 1)], [.int 1], (SS b true), Xu, J, 0, 0)) rfl trivial ?_
                  refine r_ifc okX5_readSum rfl (fun (h104_1 : (1 : Int32) = (0 : Int32)) => ?_) (fun (h104_1 : ¬ (1 : Int32) = (0 : Int32)) => ?_)
                  · exact absurd h104_1 (by decide)
                  · refine r_run okX5_readSum 5 (cs := []) (σ' := (10, [some (.ref 95), some (.int 1), some (.int 43), some (.int ((nI k) + 1)), some (.int 43), some (.int 1)], [], (SS b true), Xu, J, 0, 0)) rfl trivial ?_
                    rw [← nI_succ]
                    refine r_weak (L' := [some (.ref 95), some (.int 1), some (.int 43), some (.int (nI (k + 1))), none, none]) ⟨rfl, rfl, rfl, rfl, trivial⟩ ?_
                    refine K q _ hu (Tkn_k (A := 79) (by decide) hfr hTa) gP ?_ (fr_t hfa hfr)
                    rw [show l ++ (acc ++ wC none ++ q.1) = l ++ acc ++ wC none ++ q.1 by simp only [List.append_assoc]]
                    rw [show wC none = [] from rfl, app_n]; exact gO
              · have h87 : (43 : Int32) = (47 : Int32) := Classical.not_not.mp h870
                exact absurd h87 (by decide)
            · exact absurd h66 (by decide)
        · exact absurd h41 (by decide)
theorem sm_45_0_79 (γ : GE) {b : Bool} {J : AJ} {T : Nat → Int32} {n N i0 : Nat} {l : Cd} {X0 : AI} {X : AI} {i k : Nat} {acc : Cd} (h : kK T n i = 45) (hT : Tkn T n N X) (hP : PsO T n N X i) (hO : OuO X 79 (l ++ acc)) (hl : (l ++ acc).length + (wC none).length ≤ i) (hk : k ≤ i) (hf : fr (qX 79) X0 X) (hd : ∀ res, (∃ f, SmT T n f none i acc res) → Sm T n i0 res) (K : ∀ (q : Cd × Nat) (Y : AI), uR T n (i + 1) = .inr q → Tkn T n N Y → PsO T n N Y q.2 → OuO Y 79 (l ++ (acc ++ wC none ++ q.1)) → fr (qX 79) X0 Y → Rj γ mX5_readSum 2 0 0 (fun r S' I' J' => (SS b true) = S' ∧ J = J' ∧ ∃ res, Sm T n i0 res ∧ RsO T n N 79 X0 l res r I') (10, [some (.ref 95), some (.int 1), some (.int 45), some (.int (nI (k + 1))), none, none], [], (SS b true), Y, J, 0, 0)) : Rj γ mX5_readSum 2 0 0 (fun r S' I' J' => (SS b true) = S' ∧ J = J' ∧ ∃ res, Sm T n i0 res ∧ RsO T n N 79 X0 l res r I') (10, [some (.ref 95), some (.int 1), some (.int 18), some (.int (nI k)), none, none], [], (SS b true), X, J, 0, 0) := by
  have hlw : (wC none).length = 0 := rfl
  have hN := hT.1
  have hiN := hP.1
  have e7 : X 95 7 = 45 := hP.2.2.1.trans h
  have hi : i < N := kK_lt hT hiN (by rw [h]; decide)
  refine r_run okX5_readSum 2 (cs := []) (σ' := (14, [some (.ref 95), some (.int 1), some (.int 18), some (.int (nI k)), none, none], [.int 800, .int (nI k)], (SS b true), X, J, 0, 0)) rfl trivial ?_
  refine r_icmp okX5_readSum rfl (fun (h14 : (800 : Int32) ≤ (nI k)) => ?_) (fun (h14 : ¬ (800 : Int32) ≤ (nI k)) => ?_)
  · exact absurd h14 (nI_ge (b := 800) (by omega) (by decide))
  · refine r_run okX5_readSum 1 (cs := []) (σ' := (18, [some (.ref 95), some (.int 1), some (.int 18), some (.int (nI k)), none, none], [.int 1], (SS b true), X, J, 0, 0)) rfl trivial ?_
    refine r_ifc okX5_readSum rfl (fun (h18 : (1 : Int32) = (0 : Int32)) => ?_) (fun (h18 : ¬ (1 : Int32) = (0 : Int32)) => ?_)
    · exact absurd h18 (by decide)
    · refine r_run okX5_readSum 2 (cs := []) (σ' := (25, [some (.ref 95), some (.int 1), some (.int 18), some (.int (nI k)), none, none], [.int (X 95 7)], (SS b true), X, J, 0, 0)) rfl trivial ?_
      simp only [e7]
      show Rj _ _ _ _ _ _ (25, [some (.ref 95), some (.int 1), some (.int 18), some (.int (nI k)), none, none], [.int 45], (SS b true), X, J, 0, 0)
      refine r_callS okX5_readSum okX5_isReckoning [.int 45] [] rfl rfl rfl kkX5_isReckoning rfl rfl (by decide) (by decide) ⟨Nat.le_refl _, Nat.le_refl _⟩ (Nat.le_of_ble_eq_true rfl) (b_rk45 γ) (fun v1 S1 I1 J1 hp => ?_)
      obtain ⟨rfl, rfl, rfl, rfl⟩ := hp
      show Rj _ _ _ _ _ _ (28, [some (.ref 95), some (.int 1), some (.int 18), some (.int (nI k)), none, none], [.int 1], (SS b true), X, J, 0, 0)
      refine r_ifc okX5_readSum rfl (fun (h28 : (1 : Int32) = (0 : Int32)) => ?_) (fun (h28 : ¬ (1 : Int32) = (0 : Int32)) => ?_)
      · exact absurd h28 (by decide)
      · refine r_run okX5_readSum 5 (cs := []) (σ' := (41, [some (.ref 95), some (.int 1), some (.int 18), some (.int (nI k)), some (.int (X 95 7)), none], [.int 43, .int (X 95 7)], (SS b true), X, J, 0, 0)) rfl trivial ?_
        simp only [e7]
        show Rj _ _ _ _ _ _ (41, [some (.ref 95), some (.int 1), some (.int 18), some (.int (nI k)), some (.int 45), none], [.int 43, .int 45], (SS b true), X, J, 0, 0)
        refine r_icmp okX5_readSum rfl (fun (h41 : (45 : Int32) = (43 : Int32)) => ?_) (fun (h41 : ¬ (45 : Int32) = (43 : Int32)) => ?_)
        · exact absurd h41 (by decide)
        · refine r_run okX5_readSum 2 (cs := []) (σ' := (48, [some (.ref 95), some (.int 1), some (.int 18), some (.int (nI k)), some (.int 45), none], [.int 45, .int 45], (SS b true), X, J, 0, 0)) rfl trivial ?_
          refine r_icmp okX5_readSum rfl (fun (h48 : ¬ (45 : Int32) = (45 : Int32)) => ?_) (fun h480 => ?_)
          · exact absurd h48 (by decide)
          · have h48 : (45 : Int32) = (45 : Int32) := Classical.not_not.mp h480
            refine r_run okX5_readSum 4 (cs := []) (σ' := (60, [some (.ref 95), some (.int 1), some (.int 18), some (.int (nI k)), some (.int 45), some (.int 1)], [.int 1], (SS b true), X, J, 0, 0)) rfl trivial ?_
            refine r_ifc okX5_readSum rfl (fun (h60 : (1 : Int32) = (0 : Int32)) => ?_) (fun (h60 : ¬ (1 : Int32) = (0 : Int32)) => ?_)
            · exact absurd h60 (by decide)
            · refine r_run okX5_readSum 2 (cs := []) (σ' := (66, [some (.ref 95), some (.int 1), some (.int 18), some (.int (nI k)), some (.int 45), some (.int 1)], [.int 18, .int 18], (SS b true), X, J, 0, 0)) rfl trivial ?_
              refine r_icmp okX5_readSum rfl (fun (h66 : (18 : Int32) = (18 : Int32)) => ?_) (fun (h66 : ¬ (18 : Int32) = (18 : Int32)) => ?_)
              · refine r_run okX5_readSum 1 (cs := []) (σ' := (80, [some (.ref 95), some (.int 1), some (.int 18), some (.int (nI k)), some (.int 45), some (.int 1)], [.ref 95], (SS b true), X, J, 0, 0)) rfl trivial ?_
                refine r_callV okX5_readSum okX5_advance [] [] 95 rfl rfl rfl kkX5_advance rfl rfl (by decide) rfl rfl rfl (by decide) ⟨Nat.le_refl _, Nat.le_refl _⟩ (Nat.le_of_ble_eq_true rfl) (b_adv79 γ hT hP hi) (fun v1 S1 I1 J1 hp => ?_)
                obtain ⟨rfl, rfl, ⟨fXa, pXa⟩, rfl⟩ := hp
                obtain ⟨Xa, eXa⟩ : ∃ z, z = I1 := ⟨_, rfl⟩
                subst eXa
                have hTa : Tkn T n N Xa := Tkn_k (A := 79) (by decide) (f9_X fXa) hT
                have hOa := OuO_9 (by decide) fXa hO
                have hfa : fr (qX 79) X0 Xa := fr_t hf (f9_X fXa)
                show Rj _ _ _ _ _ _ (83, [some (.ref 95), some (.int 1), some (.int 18), some (.int (nI k)), some (.int 45), some (.int 1)], [], (SS b true), Xa, J, 0, 0)
                refine r_run okX5_readSum 2 (cs := []) (σ' := (87, [some (.ref 95), some (.int 1), some (.int 18), some (.int (nI k)), some (.int 45), some (.int 1)], [.int 47, .int 45], (SS b true), Xa, J, 0, 0)) rfl trivial ?_
                refine r_icmp okX5_readSum rfl (fun (h87 : ¬ (45 : Int32) = (47 : Int32)) => ?_) (fun h870 => ?_)
                · refine r_run okX5_readSum 1 (cs := []) (σ' := (98, [some (.ref 95), some (.int 1), some (.int 18), some (.int (nI k)), some (.int 45), some (.int 1)], [.ref 95], (SS b true), Xa, J, 0, 0)) rfl trivial ?_
                  refine r_callV okX5_readSum okX5_readUnit [] [] 95 rfl rfl rfl kkX5_readUnit rfl rfl (by decide) rfl rfl rfl (by decide) ⟨Nat.le_refl _, Nat.le_refl _⟩ (Nat.le_of_ble_eq_true rfl) (b_unit79 γ hTa pXa hOa (by simp only [List.length_append, List.length_cons, List.length_nil] at *; omega)) (fun v1 S1 I1 J1 hp => ?_)
                  obtain ⟨rfl, rfl, hfr, hr⟩ := hp
                  obtain ⟨Xu, eXu⟩ : ∃ z, z = I1 := ⟨_, rfl⟩
                  subst eXu
                  cases hu : uR T n (i + 1) with
                  | inl e =>
                    rw [hu] at hr
                    obtain ⟨rfl, gF, gE⟩ := hr
                    have hfu : fr (qX 79) X0 Xu := fr_t hfa hfr
                    have hs : SmT T n 1 none i acc (.inl e) := by unfold SmT; rw [if_pos (Or.inr h)]; simp only [hu]
                    show Rj _ _ _ _ _ _ (101, [some (.ref 95), some (.int 1), some (.int 18), some (.int (nI k)), some (.int 45), some (.int 1)], [.int 0], (SS b true), Xu, J, 0, 0)
                    refine r_run okX5_readSum 2 (cs := []) (σ' := (104, [some (.ref 95), some (.int 0), some (.int 18), some (.int (nI k)), some (.int 45), some (.int 1)], [.int 1], (SS b true), Xu, J, 0, 0)) rfl trivial ?_
                    refine r_ifc okX5_readSum rfl (fun (h104 : (1 : Int32) = (0 : Int32)) => ?_) (fun (h104 : ¬ (1 : Int32) = (0 : Int32)) => ?_)
                    · exact absurd h104 (by decide)
                    · refine r_run okX5_readSum 7 (cs := []) (σ' := (14, [some (.ref 95), some (.int 0), some (.int 45), some (.int ((nI k) + 1)), some (.int 45), some (.int 1)], [.int 800, .int ((nI k) + 1)], (SS b true), Xu, J, 0, 0)) rfl trivial ?_
                      refine r_icmp okX5_readSum rfl (fun (h14_1 : (800 : Int32) ≤ ((nI k) + 1)) => ?_) (fun (h14_1 : ¬ (800 : Int32) ≤ ((nI k) + 1)) => ?_)
                      · refine r_run okX5_readSum 2 (cs := []) (σ' := (140, [some (.ref 95), some (.int 0), some (.int 45), some (.int ((nI k) + 1)), some (.int 45), some (.int 1)], [.int 18, .int 45], (SS b true), Xu, J, 0, 0)) rfl trivial ?_
                        refine r_icmp okX5_readSum rfl (fun (h140 : (45 : Int32) = (18 : Int32)) => ?_) (fun (h140 : ¬ (45 : Int32) = (18 : Int32)) => ?_)
                        · exact absurd h140 (by decide)
                        · refine r_run okX5_readSum 4 (cs := []) (σ' := (149, [some (.ref 95), some (.int 0), some (.int 45), some (.int ((nI k) + 1)), some (.int 45), some (.int 1)], [.int 0, .int 45, .ref 79], (SS b true), Xu, J, 0, 0)) rfl trivial ?_
                          refine r_callV okX5_readSum okX6_add [.int 45, .int 0] [] 79 rfl rfl rfl kkX6_add rfl rfl (by decide) rfl rfl rfl (by decide) ⟨Nat.le_refl _, Nat.le_refl _⟩ (Nat.le_of_ble_eq_true rfl) (a_addF79 γ gF 45 0) (fun v1 S1 I1 J1 hp => ?_)
                          obtain ⟨⟨zXf1, rfl⟩, rfl, ⟨fXf1, oXf1⟩, rfl⟩ := hp
                          obtain ⟨Xf1, eXf1⟩ : ∃ z, z = I1 := ⟨_, rfl⟩
                          subst eXf1
                          show Rj _ _ _ _ _ _ (152, [some (.ref 95), some (.int 0), some (.int 45), some (.int ((nI k) + 1)), some (.int 45), some (.int 1)], [.int zXf1], (SS b true), Xf1, J, 0, 0)
                          refine r_run okX5_readSum 2 (cs := []) (σ' := (154, [some (.ref 95), some (.int 0), some (.int 45), some (.int ((nI k) + 1)), some (.int 45), some (.int 1)], [.int 0], (SS b true), Xf1, J, 0, 0)) rfl trivial ?_
                          refine r_iret okX5_readSum rfl rfl (by decide +kernel) (Nat.le_refl _) (Nat.le_refl _) ?_
                          exact ⟨rfl, rfl, .inl e, hd _ ⟨1, hs⟩, (fr_t hfu (fA_X fXf1)), rfl, oXf1, (FlO_k (by decide) fXf1 gE)⟩
                      · refine r_run okX5_readSum 1 (cs := []) (σ' := (18, [some (.ref 95), some (.int 0), some (.int 45), some (.int ((nI k) + 1)), some (.int 45), some (.int 1)], [.int 0], (SS b true), Xu, J, 0, 0)) rfl trivial ?_
                        refine r_ifc okX5_readSum rfl (fun (h18_1 : (0 : Int32) = (0 : Int32)) => ?_) (fun (h18_1 : ¬ (0 : Int32) = (0 : Int32)) => ?_)
                        · refine r_run okX5_readSum 2 (cs := []) (σ' := (140, [some (.ref 95), some (.int 0), some (.int 45), some (.int ((nI k) + 1)), some (.int 45), some (.int 1)], [.int 18, .int 45], (SS b true), Xu, J, 0, 0)) rfl trivial ?_
                          refine r_icmp okX5_readSum rfl (fun (h140_1 : (45 : Int32) = (18 : Int32)) => ?_) (fun (h140_1 : ¬ (45 : Int32) = (18 : Int32)) => ?_)
                          · exact absurd h140_1 (by decide)
                          · refine r_run okX5_readSum 4 (cs := []) (σ' := (149, [some (.ref 95), some (.int 0), some (.int 45), some (.int ((nI k) + 1)), some (.int 45), some (.int 1)], [.int 0, .int 45, .ref 79], (SS b true), Xu, J, 0, 0)) rfl trivial ?_
                            refine r_callV okX5_readSum okX6_add [.int 45, .int 0] [] 79 rfl rfl rfl kkX6_add rfl rfl (by decide) rfl rfl rfl (by decide) ⟨Nat.le_refl _, Nat.le_refl _⟩ (Nat.le_of_ble_eq_true rfl) (a_addF79 γ gF 45 0) (fun v1 S1 I1 J1 hp => ?_)
                            obtain ⟨⟨zXf1, rfl⟩, rfl, ⟨fXf1, oXf1⟩, rfl⟩ := hp
                            obtain ⟨Xf1, eXf1⟩ : ∃ z, z = I1 := ⟨_, rfl⟩
                            subst eXf1
                            show Rj _ _ _ _ _ _ (152, [some (.ref 95), some (.int 0), some (.int 45), some (.int ((nI k) + 1)), some (.int 45), some (.int 1)], [.int zXf1], (SS b true), Xf1, J, 0, 0)
                            refine r_run okX5_readSum 2 (cs := []) (σ' := (154, [some (.ref 95), some (.int 0), some (.int 45), some (.int ((nI k) + 1)), some (.int 45), some (.int 1)], [.int 0], (SS b true), Xf1, J, 0, 0)) rfl trivial ?_
                            refine r_iret okX5_readSum rfl rfl (by decide +kernel) (Nat.le_refl _) (Nat.le_refl _) ?_
                            exact ⟨rfl, rfl, .inl e, hd _ ⟨1, hs⟩, (fr_t hfu (fA_X fXf1)), rfl, oXf1, (FlO_k (by decide) fXf1 gE)⟩
                        · exact absurd h18_1 (by decide)
                  | inr q =>
                    rw [hu] at hr
                    obtain ⟨rfl, gP, gO⟩ := hr
                    have hq1 := uR_l1 hu
                    have hq2 := gP.1
                    show Rj _ _ _ _ _ _ (101, [some (.ref 95), some (.int 1), some (.int 18), some (.int (nI k)), some (.int 45), some (.int 1)], [.int 1], (SS b true), Xu, J, 0, 0)
                    refine r_run okX5_readSum 2 (cs := []) (σ' := (104, [some (.ref 95), some (.int 1), some (.int 18), some (.int (nI k)), some (.int 45), some (.int 1)], [.int 1], (SS b true), Xu, J, 0, 0)) rfl trivial ?_
                    refine r_ifc okX5_readSum rfl (fun (h104_1 : (1 : Int32) = (0 : Int32)) => ?_) (fun (h104_1 : ¬ (1 : Int32) = (0 : Int32)) => ?_)
                    · exact absurd h104_1 (by decide)
                    · refine r_run okX5_readSum 5 (cs := []) (σ' := (10, [some (.ref 95), some (.int 1), some (.int 45), some (.int ((nI k) + 1)), some (.int 45), some (.int 1)], [], (SS b true), Xu, J, 0, 0)) rfl trivial ?_
                      rw [← nI_succ]
                      refine r_weak (L' := [some (.ref 95), some (.int 1), some (.int 45), some (.int (nI (k + 1))), none, none]) ⟨rfl, rfl, rfl, rfl, trivial⟩ ?_
                      refine K q _ hu (Tkn_k (A := 79) (by decide) hfr hTa) gP ?_ (fr_t hfa hfr)
                      rw [show l ++ (acc ++ wC none ++ q.1) = l ++ acc ++ wC none ++ q.1 by simp only [List.append_assoc]]
                      rw [show wC none = [] from rfl, app_n]; exact gO
                · have h87 : (45 : Int32) = (47 : Int32) := Classical.not_not.mp h870
                  exact absurd h87 (by decide)
              · exact absurd h66 (by decide)
theorem sm_42_0_79 (γ : GE) {b : Bool} {J : AJ} {T : Nat → Int32} {n N i0 : Nat} {l : Cd} {X0 : AI} {X : AI} {i k : Nat} {acc : Cd} (h : kK T n i = 42) (hT : Tkn T n N X) (hP : PsO T n N X i) (hO : OuO X 79 (l ++ acc)) (hl : (l ++ acc).length + (wC none).length ≤ i) (hk : k ≤ i) (hf : fr (qX 79) X0 X) (hd : ∀ res, (∃ f, SmT T n f none i acc res) → Sm T n i0 res) (K : ∀ (q : Cd × Nat) (Y : AI), uR T n (i + 1) = .inr q → Tkn T n N Y → PsO T n N Y q.2 → OuO Y 79 (l ++ (acc ++ q.1 ++ [(4, 0)])) → fr (qX 79) X0 Y → Rj γ mX5_readSum 2 0 0 (fun r S' I' J' => (SS b true) = S' ∧ J = J' ∧ ∃ res, Sm T n i0 res ∧ RsO T n N 79 X0 l res r I') (10, [some (.ref 95), some (.int 1), some (.int 18), some (.int (nI (k + 1))), none, none], [], (SS b true), Y, J, 0, 0)) : Rj γ mX5_readSum 2 0 0 (fun r S' I' J' => (SS b true) = S' ∧ J = J' ∧ ∃ res, Sm T n i0 res ∧ RsO T n N 79 X0 l res r I') (10, [some (.ref 95), some (.int 1), some (.int 18), some (.int (nI k)), none, none], [], (SS b true), X, J, 0, 0) := by
  have hlw : (wC none).length = 0 := rfl
  have hN := hT.1
  have hiN := hP.1
  have e7 : X 95 7 = 42 := hP.2.2.1.trans h
  have hi : i < N := kK_lt hT hiN (by rw [h]; decide)
  refine r_run okX5_readSum 2 (cs := []) (σ' := (14, [some (.ref 95), some (.int 1), some (.int 18), some (.int (nI k)), none, none], [.int 800, .int (nI k)], (SS b true), X, J, 0, 0)) rfl trivial ?_
  refine r_icmp okX5_readSum rfl (fun (h14 : (800 : Int32) ≤ (nI k)) => ?_) (fun (h14 : ¬ (800 : Int32) ≤ (nI k)) => ?_)
  · exact absurd h14 (nI_ge (b := 800) (by omega) (by decide))
  · refine r_run okX5_readSum 1 (cs := []) (σ' := (18, [some (.ref 95), some (.int 1), some (.int 18), some (.int (nI k)), none, none], [.int 1], (SS b true), X, J, 0, 0)) rfl trivial ?_
    refine r_ifc okX5_readSum rfl (fun (h18 : (1 : Int32) = (0 : Int32)) => ?_) (fun (h18 : ¬ (1 : Int32) = (0 : Int32)) => ?_)
    · exact absurd h18 (by decide)
    · refine r_run okX5_readSum 2 (cs := []) (σ' := (25, [some (.ref 95), some (.int 1), some (.int 18), some (.int (nI k)), none, none], [.int (X 95 7)], (SS b true), X, J, 0, 0)) rfl trivial ?_
      simp only [e7]
      show Rj _ _ _ _ _ _ (25, [some (.ref 95), some (.int 1), some (.int 18), some (.int (nI k)), none, none], [.int 42], (SS b true), X, J, 0, 0)
      refine r_callS okX5_readSum okX5_isReckoning [.int 42] [] rfl rfl rfl kkX5_isReckoning rfl rfl (by decide) (by decide) ⟨Nat.le_refl _, Nat.le_refl _⟩ (Nat.le_of_ble_eq_true rfl) (b_rk42 γ) (fun v1 S1 I1 J1 hp => ?_)
      obtain ⟨rfl, rfl, rfl, rfl⟩ := hp
      show Rj _ _ _ _ _ _ (28, [some (.ref 95), some (.int 1), some (.int 18), some (.int (nI k)), none, none], [.int 1], (SS b true), X, J, 0, 0)
      refine r_ifc okX5_readSum rfl (fun (h28 : (1 : Int32) = (0 : Int32)) => ?_) (fun (h28 : ¬ (1 : Int32) = (0 : Int32)) => ?_)
      · exact absurd h28 (by decide)
      · refine r_run okX5_readSum 5 (cs := []) (σ' := (41, [some (.ref 95), some (.int 1), some (.int 18), some (.int (nI k)), some (.int (X 95 7)), none], [.int 43, .int (X 95 7)], (SS b true), X, J, 0, 0)) rfl trivial ?_
        simp only [e7]
        show Rj _ _ _ _ _ _ (41, [some (.ref 95), some (.int 1), some (.int 18), some (.int (nI k)), some (.int 42), none], [.int 43, .int 42], (SS b true), X, J, 0, 0)
        refine r_icmp okX5_readSum rfl (fun (h41 : (42 : Int32) = (43 : Int32)) => ?_) (fun (h41 : ¬ (42 : Int32) = (43 : Int32)) => ?_)
        · exact absurd h41 (by decide)
        · refine r_run okX5_readSum 2 (cs := []) (σ' := (48, [some (.ref 95), some (.int 1), some (.int 18), some (.int (nI k)), some (.int 42), none], [.int 45, .int 42], (SS b true), X, J, 0, 0)) rfl trivial ?_
          refine r_icmp okX5_readSum rfl (fun (h48 : ¬ (42 : Int32) = (45 : Int32)) => ?_) (fun h480 => ?_)
          · refine r_run okX5_readSum 3 (cs := []) (σ' := (60, [some (.ref 95), some (.int 1), some (.int 18), some (.int (nI k)), some (.int 42), some (.int 0)], [.int 0], (SS b true), X, J, 0, 0)) rfl trivial ?_
            refine r_ifc okX5_readSum rfl (fun (h60 : (0 : Int32) = (0 : Int32)) => ?_) (fun (h60 : ¬ (0 : Int32) = (0 : Int32)) => ?_)
            · refine r_run okX5_readSum 1 (cs := []) (σ' := (80, [some (.ref 95), some (.int 1), some (.int 18), some (.int (nI k)), some (.int 42), some (.int 0)], [.ref 95], (SS b true), X, J, 0, 0)) rfl trivial ?_
              refine r_callV okX5_readSum okX5_advance [] [] 95 rfl rfl rfl kkX5_advance rfl rfl (by decide) rfl rfl rfl (by decide) ⟨Nat.le_refl _, Nat.le_refl _⟩ (Nat.le_of_ble_eq_true rfl) (b_adv79 γ hT hP hi) (fun v1 S1 I1 J1 hp => ?_)
              obtain ⟨rfl, rfl, ⟨fXa, pXa⟩, rfl⟩ := hp
              obtain ⟨Xa, eXa⟩ : ∃ z, z = I1 := ⟨_, rfl⟩
              subst eXa
              have hTa : Tkn T n N Xa := Tkn_k (A := 79) (by decide) (f9_X fXa) hT
              have hOa := OuO_9 (by decide) fXa hO
              have hfa : fr (qX 79) X0 Xa := fr_t hf (f9_X fXa)
              show Rj _ _ _ _ _ _ (83, [some (.ref 95), some (.int 1), some (.int 18), some (.int (nI k)), some (.int 42), some (.int 0)], [], (SS b true), Xa, J, 0, 0)
              refine r_run okX5_readSum 2 (cs := []) (σ' := (87, [some (.ref 95), some (.int 1), some (.int 18), some (.int (nI k)), some (.int 42), some (.int 0)], [.int 47, .int 42], (SS b true), Xa, J, 0, 0)) rfl trivial ?_
              refine r_icmp okX5_readSum rfl (fun (h87 : ¬ (42 : Int32) = (47 : Int32)) => ?_) (fun h870 => ?_)
              · refine r_run okX5_readSum 1 (cs := []) (σ' := (98, [some (.ref 95), some (.int 1), some (.int 18), some (.int (nI k)), some (.int 42), some (.int 0)], [.ref 95], (SS b true), Xa, J, 0, 0)) rfl trivial ?_
                refine r_callV okX5_readSum okX5_readUnit [] [] 95 rfl rfl rfl kkX5_readUnit rfl rfl (by decide) rfl rfl rfl (by decide) ⟨Nat.le_refl _, Nat.le_refl _⟩ (Nat.le_of_ble_eq_true rfl) (b_unit79 γ hTa pXa hOa (by simp only [List.length_append, List.length_cons, List.length_nil] at *; omega)) (fun v1 S1 I1 J1 hp => ?_)
                obtain ⟨rfl, rfl, hfr, hr⟩ := hp
                obtain ⟨Xu, eXu⟩ : ∃ z, z = I1 := ⟨_, rfl⟩
                subst eXu
                cases hu : uR T n (i + 1) with
                | inl e =>
                  rw [hu] at hr
                  obtain ⟨rfl, gF, gE⟩ := hr
                  have hfu : fr (qX 79) X0 Xu := fr_t hfa hfr
                  have hs : SmT T n 1 none i acc (.inl e) := by unfold SmT; rw [if_neg (by rw [h]; decide), if_pos h]; simp only [hu]
                  show Rj _ _ _ _ _ _ (101, [some (.ref 95), some (.int 1), some (.int 18), some (.int (nI k)), some (.int 42), some (.int 0)], [.int 0], (SS b true), Xu, J, 0, 0)
                  refine r_run okX5_readSum 2 (cs := []) (σ' := (104, [some (.ref 95), some (.int 0), some (.int 18), some (.int (nI k)), some (.int 42), some (.int 0)], [.int 0], (SS b true), Xu, J, 0, 0)) rfl trivial ?_
                  refine r_ifc okX5_readSum rfl (fun (h104 : (0 : Int32) = (0 : Int32)) => ?_) (fun (h104 : ¬ (0 : Int32) = (0 : Int32)) => ?_)
                  · refine r_run okX5_readSum 2 (cs := []) (σ' := (117, [some (.ref 95), some (.int 0), some (.int 18), some (.int (nI k)), some (.int 42), some (.int 0)], [.int 42, .int 42], (SS b true), Xu, J, 0, 0)) rfl trivial ?_
                    refine r_icmp okX5_readSum rfl (fun (h117 : ¬ (42 : Int32) = (42 : Int32)) => ?_) (fun h1170 => ?_)
                    · exact absurd h117 (by decide)
                    · have h117 : (42 : Int32) = (42 : Int32) := Classical.not_not.mp h1170
                      refine r_run okX5_readSum 4 (cs := []) (σ' := (127, [some (.ref 95), some (.int 0), some (.int 18), some (.int (nI k)), some (.int 42), some (.int 0)], [.int 0, .int 42, .ref 79], (SS b true), Xu, J, 0, 0)) rfl trivial ?_
                      refine r_callV okX5_readSum okX6_add [.int 42, .int 0] [] 79 rfl rfl rfl kkX6_add rfl rfl (by decide) rfl rfl rfl (by decide) ⟨Nat.le_refl _, Nat.le_refl _⟩ (Nat.le_of_ble_eq_true rfl) (a_addF79 γ gF 42 0) (fun v1 S1 I1 J1 hp => ?_)
                      obtain ⟨⟨zXf1, rfl⟩, rfl, ⟨fXf1, oXf1⟩, rfl⟩ := hp
                      obtain ⟨Xf1, eXf1⟩ : ∃ z, z = I1 := ⟨_, rfl⟩
                      subst eXf1
                      show Rj _ _ _ _ _ _ (130, [some (.ref 95), some (.int 0), some (.int 18), some (.int (nI k)), some (.int 42), some (.int 0)], [.int zXf1], (SS b true), Xf1, J, 0, 0)
                      refine r_run okX5_readSum 5 (cs := []) (σ' := (14, [some (.ref 95), some (.int 0), some (.int 18), some (.int ((nI k) + 1)), some (.int 42), some (.int 0)], [.int 800, .int ((nI k) + 1)], (SS b true), Xf1, J, 0, 0)) rfl trivial ?_
                      refine r_icmp okX5_readSum rfl (fun (h14_1 : (800 : Int32) ≤ ((nI k) + 1)) => ?_) (fun (h14_1 : ¬ (800 : Int32) ≤ ((nI k) + 1)) => ?_)
                      · refine r_run okX5_readSum 2 (cs := []) (σ' := (140, [some (.ref 95), some (.int 0), some (.int 18), some (.int ((nI k) + 1)), some (.int 42), some (.int 0)], [.int 18, .int 18], (SS b true), Xf1, J, 0, 0)) rfl trivial ?_
                        refine r_icmp okX5_readSum rfl (fun (h140 : (18 : Int32) = (18 : Int32)) => ?_) (fun (h140 : ¬ (18 : Int32) = (18 : Int32)) => ?_)
                        · refine r_run okX5_readSum 1 (cs := []) (σ' := (154, [some (.ref 95), some (.int 0), some (.int 18), some (.int ((nI k) + 1)), some (.int 42), some (.int 0)], [.int 0], (SS b true), Xf1, J, 0, 0)) rfl trivial ?_
                          refine r_iret okX5_readSum rfl rfl (by decide +kernel) (Nat.le_refl _) (Nat.le_refl _) ?_
                          exact ⟨rfl, rfl, .inl e, hd _ ⟨1, hs⟩, (fr_t hfu (fA_X fXf1)), rfl, oXf1, (FlO_k (by decide) fXf1 gE)⟩
                        · exact absurd h140 (by decide)
                      · refine r_run okX5_readSum 1 (cs := []) (σ' := (18, [some (.ref 95), some (.int 0), some (.int 18), some (.int ((nI k) + 1)), some (.int 42), some (.int 0)], [.int 0], (SS b true), Xf1, J, 0, 0)) rfl trivial ?_
                        refine r_ifc okX5_readSum rfl (fun (h18_1 : (0 : Int32) = (0 : Int32)) => ?_) (fun (h18_1 : ¬ (0 : Int32) = (0 : Int32)) => ?_)
                        · refine r_run okX5_readSum 2 (cs := []) (σ' := (140, [some (.ref 95), some (.int 0), some (.int 18), some (.int ((nI k) + 1)), some (.int 42), some (.int 0)], [.int 18, .int 18], (SS b true), Xf1, J, 0, 0)) rfl trivial ?_
                          refine r_icmp okX5_readSum rfl (fun (h140_1 : (18 : Int32) = (18 : Int32)) => ?_) (fun (h140_1 : ¬ (18 : Int32) = (18 : Int32)) => ?_)
                          · refine r_run okX5_readSum 1 (cs := []) (σ' := (154, [some (.ref 95), some (.int 0), some (.int 18), some (.int ((nI k) + 1)), some (.int 42), some (.int 0)], [.int 0], (SS b true), Xf1, J, 0, 0)) rfl trivial ?_
                            refine r_iret okX5_readSum rfl rfl (by decide +kernel) (Nat.le_refl _) (Nat.le_refl _) ?_
                            exact ⟨rfl, rfl, .inl e, hd _ ⟨1, hs⟩, (fr_t hfu (fA_X fXf1)), rfl, oXf1, (FlO_k (by decide) fXf1 gE)⟩
                          · exact absurd h140_1 (by decide)
                        · exact absurd h18_1 (by decide)
                  · exact absurd h104 (by decide)
                | inr q =>
                  rw [hu] at hr
                  obtain ⟨rfl, gP, gO⟩ := hr
                  have hq1 := uR_l1 hu
                  have hq2 := gP.1
                  show Rj _ _ _ _ _ _ (101, [some (.ref 95), some (.int 1), some (.int 18), some (.int (nI k)), some (.int 42), some (.int 0)], [.int 1], (SS b true), Xu, J, 0, 0)
                  refine r_run okX5_readSum 2 (cs := []) (σ' := (104, [some (.ref 95), some (.int 1), some (.int 18), some (.int (nI k)), some (.int 42), some (.int 0)], [.int 0], (SS b true), Xu, J, 0, 0)) rfl trivial ?_
                  refine r_ifc okX5_readSum rfl (fun (h104_1 : (0 : Int32) = (0 : Int32)) => ?_) (fun (h104_1 : ¬ (0 : Int32) = (0 : Int32)) => ?_)
                  · refine r_run okX5_readSum 2 (cs := []) (σ' := (117, [some (.ref 95), some (.int 1), some (.int 18), some (.int (nI k)), some (.int 42), some (.int 0)], [.int 42, .int 42], (SS b true), Xu, J, 0, 0)) rfl trivial ?_
                    refine r_icmp okX5_readSum rfl (fun (h117_1 : ¬ (42 : Int32) = (42 : Int32)) => ?_) (fun h117_10 => ?_)
                    · exact absurd h117_1 (by decide)
                    · have h117_1 : (42 : Int32) = (42 : Int32) := Classical.not_not.mp h117_10
                      refine r_run okX5_readSum 4 (cs := []) (σ' := (127, [some (.ref 95), some (.int 1), some (.int 18), some (.int (nI k)), some (.int 42), some (.int 0)], [.int 0, .int 42, .ref 79], (SS b true), Xu, J, 0, 0)) rfl trivial ?_
                      refine r_callV okX5_readSum okX6_add [.int 42, .int 0] [] 79 rfl rfl rfl kkX6_add rfl rfl (by decide) rfl rfl rfl (by decide) ⟨Nat.le_refl _, Nat.le_refl _⟩ (Nat.le_of_ble_eq_true rfl) (a_add79 γ gO (by simp only [List.length_append, List.length_cons, List.length_nil] at *; omega) (p := (4, 0)) rfl) (fun v1 S1 I1 J1 hp => ?_)
                      obtain ⟨rfl, rfl, ⟨fXg, oXg⟩, rfl⟩ := hp
                      obtain ⟨Xg, eXg⟩ : ∃ z, z = I1 := ⟨_, rfl⟩
                      subst eXg
                      show Rj _ _ _ _ _ _ (130, [some (.ref 95), some (.int 1), some (.int 18), some (.int (nI k)), some (.int 42), some (.int 0)], [.int 1], (SS b true), Xg, J, 0, 0)
                      refine r_run okX5_readSum 3 (cs := []) (σ' := (10, [some (.ref 95), some (.int 1), some (.int 18), some (.int ((nI k) + 1)), some (.int 42), some (.int 0)], [], (SS b true), Xg, J, 0, 0)) rfl trivial ?_
                      rw [← nI_succ]
                      refine r_weak (L' := [some (.ref 95), some (.int 1), some (.int 18), some (.int (nI (k + 1))), none, none]) ⟨rfl, rfl, rfl, rfl, trivial⟩ ?_
                      refine K q _ hu (Tkn_k (A := 79) (by decide) (fA_X fXg) (Tkn_k (A := 79) (by decide) hfr hTa)) (PsO_k (by decide) fXg gP) ?_ (fr_t (fr_t hfa hfr) (fA_X fXg))
                      rw [show l ++ (acc ++ q.1 ++ [(4, 0)]) = l ++ acc ++ q.1 ++ [(4, 0)] by simp only [List.append_assoc]]
                      exact oXg
                  · exact absurd h104_1 (by decide)
              · have h87 : (42 : Int32) = (47 : Int32) := Classical.not_not.mp h870
                exact absurd h87 (by decide)
            · exact absurd h60 (by decide)
          · have h48 : (42 : Int32) = (45 : Int32) := Classical.not_not.mp h480
            exact absurd h48 (by decide)
theorem sm_47_0_79 (γ : GE) {b : Bool} {J : AJ} {T : Nat → Int32} {n N i0 : Nat} {l : Cd} {X0 : AI} {X : AI} {i k : Nat} {acc : Cd} (h : kK T n i = 47) (hT : Tkn T n N X) (hP : PsO T n N X i) (hO : OuO X 79 (l ++ acc)) (hl : (l ++ acc).length + (wC none).length ≤ i) (hk : k ≤ i) (hf : fr (qX 79) X0 X) (hd : ∀ res, (∃ f, SmT T n f none i acc res) → Sm T n i0 res) (K : ∀ (q : Cd × Nat) (Y : AI), dR T n (i + 1) = .inr q → Tkn T n N Y → PsO T n N Y q.2 → OuO Y 79 (l ++ (acc ++ q.1)) → fr (qX 79) X0 Y → Rj γ mX5_readSum 2 0 0 (fun r S' I' J' => (SS b true) = S' ∧ J = J' ∧ ∃ res, Sm T n i0 res ∧ RsO T n N 79 X0 l res r I') (10, [some (.ref 95), some (.int 1), some (.int 18), some (.int (nI (k + 1))), none, none], [], (SS b true), Y, J, 0, 0)) : Rj γ mX5_readSum 2 0 0 (fun r S' I' J' => (SS b true) = S' ∧ J = J' ∧ ∃ res, Sm T n i0 res ∧ RsO T n N 79 X0 l res r I') (10, [some (.ref 95), some (.int 1), some (.int 18), some (.int (nI k)), none, none], [], (SS b true), X, J, 0, 0) := by
  have hlw : (wC none).length = 0 := rfl
  have hN := hT.1
  have hiN := hP.1
  have e7 : X 95 7 = 47 := hP.2.2.1.trans h
  have hi : i < N := kK_lt hT hiN (by rw [h]; decide)
  refine r_run okX5_readSum 2 (cs := []) (σ' := (14, [some (.ref 95), some (.int 1), some (.int 18), some (.int (nI k)), none, none], [.int 800, .int (nI k)], (SS b true), X, J, 0, 0)) rfl trivial ?_
  refine r_icmp okX5_readSum rfl (fun (h14 : (800 : Int32) ≤ (nI k)) => ?_) (fun (h14 : ¬ (800 : Int32) ≤ (nI k)) => ?_)
  · exact absurd h14 (nI_ge (b := 800) (by omega) (by decide))
  · refine r_run okX5_readSum 1 (cs := []) (σ' := (18, [some (.ref 95), some (.int 1), some (.int 18), some (.int (nI k)), none, none], [.int 1], (SS b true), X, J, 0, 0)) rfl trivial ?_
    refine r_ifc okX5_readSum rfl (fun (h18 : (1 : Int32) = (0 : Int32)) => ?_) (fun (h18 : ¬ (1 : Int32) = (0 : Int32)) => ?_)
    · exact absurd h18 (by decide)
    · refine r_run okX5_readSum 2 (cs := []) (σ' := (25, [some (.ref 95), some (.int 1), some (.int 18), some (.int (nI k)), none, none], [.int (X 95 7)], (SS b true), X, J, 0, 0)) rfl trivial ?_
      simp only [e7]
      show Rj _ _ _ _ _ _ (25, [some (.ref 95), some (.int 1), some (.int 18), some (.int (nI k)), none, none], [.int 47], (SS b true), X, J, 0, 0)
      refine r_callS okX5_readSum okX5_isReckoning [.int 47] [] rfl rfl rfl kkX5_isReckoning rfl rfl (by decide) (by decide) ⟨Nat.le_refl _, Nat.le_refl _⟩ (Nat.le_of_ble_eq_true rfl) (b_rk47 γ) (fun v1 S1 I1 J1 hp => ?_)
      obtain ⟨rfl, rfl, rfl, rfl⟩ := hp
      show Rj _ _ _ _ _ _ (28, [some (.ref 95), some (.int 1), some (.int 18), some (.int (nI k)), none, none], [.int 1], (SS b true), X, J, 0, 0)
      refine r_ifc okX5_readSum rfl (fun (h28 : (1 : Int32) = (0 : Int32)) => ?_) (fun (h28 : ¬ (1 : Int32) = (0 : Int32)) => ?_)
      · exact absurd h28 (by decide)
      · refine r_run okX5_readSum 5 (cs := []) (σ' := (41, [some (.ref 95), some (.int 1), some (.int 18), some (.int (nI k)), some (.int (X 95 7)), none], [.int 43, .int (X 95 7)], (SS b true), X, J, 0, 0)) rfl trivial ?_
        simp only [e7]
        show Rj _ _ _ _ _ _ (41, [some (.ref 95), some (.int 1), some (.int 18), some (.int (nI k)), some (.int 47), none], [.int 43, .int 47], (SS b true), X, J, 0, 0)
        refine r_icmp okX5_readSum rfl (fun (h41 : (47 : Int32) = (43 : Int32)) => ?_) (fun (h41 : ¬ (47 : Int32) = (43 : Int32)) => ?_)
        · exact absurd h41 (by decide)
        · refine r_run okX5_readSum 2 (cs := []) (σ' := (48, [some (.ref 95), some (.int 1), some (.int 18), some (.int (nI k)), some (.int 47), none], [.int 45, .int 47], (SS b true), X, J, 0, 0)) rfl trivial ?_
          refine r_icmp okX5_readSum rfl (fun (h48 : ¬ (47 : Int32) = (45 : Int32)) => ?_) (fun h480 => ?_)
          · refine r_run okX5_readSum 3 (cs := []) (σ' := (60, [some (.ref 95), some (.int 1), some (.int 18), some (.int (nI k)), some (.int 47), some (.int 0)], [.int 0], (SS b true), X, J, 0, 0)) rfl trivial ?_
            refine r_ifc okX5_readSum rfl (fun (h60 : (0 : Int32) = (0 : Int32)) => ?_) (fun (h60 : ¬ (0 : Int32) = (0 : Int32)) => ?_)
            · refine r_run okX5_readSum 1 (cs := []) (σ' := (80, [some (.ref 95), some (.int 1), some (.int 18), some (.int (nI k)), some (.int 47), some (.int 0)], [.ref 95], (SS b true), X, J, 0, 0)) rfl trivial ?_
              refine r_callV okX5_readSum okX5_advance [] [] 95 rfl rfl rfl kkX5_advance rfl rfl (by decide) rfl rfl rfl (by decide) ⟨Nat.le_refl _, Nat.le_refl _⟩ (Nat.le_of_ble_eq_true rfl) (b_adv79 γ hT hP hi) (fun v1 S1 I1 J1 hp => ?_)
              obtain ⟨rfl, rfl, ⟨fXa, pXa⟩, rfl⟩ := hp
              obtain ⟨Xa, eXa⟩ : ∃ z, z = I1 := ⟨_, rfl⟩
              subst eXa
              have hTa : Tkn T n N Xa := Tkn_k (A := 79) (by decide) (f9_X fXa) hT
              have hOa := OuO_9 (by decide) fXa hO
              have hfa : fr (qX 79) X0 Xa := fr_t hf (f9_X fXa)
              show Rj _ _ _ _ _ _ (83, [some (.ref 95), some (.int 1), some (.int 18), some (.int (nI k)), some (.int 47), some (.int 0)], [], (SS b true), Xa, J, 0, 0)
              refine r_run okX5_readSum 2 (cs := []) (σ' := (87, [some (.ref 95), some (.int 1), some (.int 18), some (.int (nI k)), some (.int 47), some (.int 0)], [.int 47, .int 47], (SS b true), Xa, J, 0, 0)) rfl trivial ?_
              refine r_icmp okX5_readSum rfl (fun (h87 : ¬ (47 : Int32) = (47 : Int32)) => ?_) (fun h870 => ?_)
              · exact absurd h87 (by decide)
              · have h87 : (47 : Int32) = (47 : Int32) := Classical.not_not.mp h870
                refine r_run okX5_readSum 1 (cs := []) (σ' := (91, [some (.ref 95), some (.int 1), some (.int 18), some (.int (nI k)), some (.int 47), some (.int 0)], [.ref 95], (SS b true), Xa, J, 0, 0)) rfl trivial ?_
                refine r_callV okX5_readSum okX5_readDivisor [] [] 95 rfl rfl rfl kkX5_readDivisor rfl rfl (by decide) rfl rfl rfl (by decide) ⟨Nat.le_refl _, Nat.le_refl _⟩ (Nat.le_of_ble_eq_true rfl) (b_div79 γ hTa pXa hOa (by simp only [List.length_append, List.length_cons, List.length_nil] at *; omega)) (fun v1 S1 I1 J1 hp => ?_)
                obtain ⟨rfl, rfl, hfr, hr⟩ := hp
                obtain ⟨Xu, eXu⟩ : ∃ z, z = I1 := ⟨_, rfl⟩
                subst eXu
                cases hu : dR T n (i + 1) with
                | inl e =>
                  rw [hu] at hr
                  obtain ⟨rfl, gF, gE⟩ := hr
                  have hfu : fr (qX 79) X0 Xu := fr_t hfa hfr
                  have hs : SmT T n 1 none i acc (.inl e) := by
                    unfold SmT; rw [if_neg (by rw [h]; decide), if_neg (by rw [h]; decide), if_pos h]; unfold dR at hu
                    split at hu
                    · rename_i z1; rw [if_pos z1]; split at hu
                      · rename_i z2; rw [if_pos z2]; cases hu; rfl
                      · cases hu
                    · rename_i z1; rw [if_neg z1]; cases hu; rfl
                  show Rj _ _ _ _ _ _ (94, [some (.ref 95), some (.int 1), some (.int 18), some (.int (nI k)), some (.int 47), some (.int 0)], [.int 0], (SS b true), Xu, J, 0, 0)
                  refine r_run okX5_readSum 3 (cs := []) (σ' := (104, [some (.ref 95), some (.int 0), some (.int 18), some (.int (nI k)), some (.int 47), some (.int 0)], [.int 0], (SS b true), Xu, J, 0, 0)) rfl trivial ?_
                  refine r_ifc okX5_readSum rfl (fun (h104 : (0 : Int32) = (0 : Int32)) => ?_) (fun (h104 : ¬ (0 : Int32) = (0 : Int32)) => ?_)
                  · refine r_run okX5_readSum 2 (cs := []) (σ' := (117, [some (.ref 95), some (.int 0), some (.int 18), some (.int (nI k)), some (.int 47), some (.int 0)], [.int 42, .int 47], (SS b true), Xu, J, 0, 0)) rfl trivial ?_
                    refine r_icmp okX5_readSum rfl (fun (h117 : ¬ (47 : Int32) = (42 : Int32)) => ?_) (fun h1170 => ?_)
                    · refine r_run okX5_readSum 4 (cs := []) (σ' := (14, [some (.ref 95), some (.int 0), some (.int 18), some (.int ((nI k) + 1)), some (.int 47), some (.int 0)], [.int 800, .int ((nI k) + 1)], (SS b true), Xu, J, 0, 0)) rfl trivial ?_
                      refine r_icmp okX5_readSum rfl (fun (h14_1 : (800 : Int32) ≤ ((nI k) + 1)) => ?_) (fun (h14_1 : ¬ (800 : Int32) ≤ ((nI k) + 1)) => ?_)
                      · refine r_run okX5_readSum 2 (cs := []) (σ' := (140, [some (.ref 95), some (.int 0), some (.int 18), some (.int ((nI k) + 1)), some (.int 47), some (.int 0)], [.int 18, .int 18], (SS b true), Xu, J, 0, 0)) rfl trivial ?_
                        refine r_icmp okX5_readSum rfl (fun (h140 : (18 : Int32) = (18 : Int32)) => ?_) (fun (h140 : ¬ (18 : Int32) = (18 : Int32)) => ?_)
                        · refine r_run okX5_readSum 1 (cs := []) (σ' := (154, [some (.ref 95), some (.int 0), some (.int 18), some (.int ((nI k) + 1)), some (.int 47), some (.int 0)], [.int 0], (SS b true), Xu, J, 0, 0)) rfl trivial ?_
                          refine r_iret okX5_readSum rfl rfl (by decide +kernel) (Nat.le_refl _) (Nat.le_refl _) ?_
                          exact ⟨rfl, rfl, .inl e, hd _ ⟨1, hs⟩, hfu, rfl, gF, gE⟩
                        · exact absurd h140 (by decide)
                      · refine r_run okX5_readSum 1 (cs := []) (σ' := (18, [some (.ref 95), some (.int 0), some (.int 18), some (.int ((nI k) + 1)), some (.int 47), some (.int 0)], [.int 0], (SS b true), Xu, J, 0, 0)) rfl trivial ?_
                        refine r_ifc okX5_readSum rfl (fun (h18_1 : (0 : Int32) = (0 : Int32)) => ?_) (fun (h18_1 : ¬ (0 : Int32) = (0 : Int32)) => ?_)
                        · refine r_run okX5_readSum 2 (cs := []) (σ' := (140, [some (.ref 95), some (.int 0), some (.int 18), some (.int ((nI k) + 1)), some (.int 47), some (.int 0)], [.int 18, .int 18], (SS b true), Xu, J, 0, 0)) rfl trivial ?_
                          refine r_icmp okX5_readSum rfl (fun (h140_1 : (18 : Int32) = (18 : Int32)) => ?_) (fun (h140_1 : ¬ (18 : Int32) = (18 : Int32)) => ?_)
                          · refine r_run okX5_readSum 1 (cs := []) (σ' := (154, [some (.ref 95), some (.int 0), some (.int 18), some (.int ((nI k) + 1)), some (.int 47), some (.int 0)], [.int 0], (SS b true), Xu, J, 0, 0)) rfl trivial ?_
                            refine r_iret okX5_readSum rfl rfl (by decide +kernel) (Nat.le_refl _) (Nat.le_refl _) ?_
                            exact ⟨rfl, rfl, .inl e, hd _ ⟨1, hs⟩, hfu, rfl, gF, gE⟩
                          · exact absurd h140_1 (by decide)
                        · exact absurd h18_1 (by decide)
                    · have h117 : (47 : Int32) = (42 : Int32) := Classical.not_not.mp h1170
                      exact absurd h117 (by decide)
                  · exact absurd h104 (by decide)
                | inr q =>
                  rw [hu] at hr
                  obtain ⟨rfl, gP, gO⟩ := hr
                  have hq1 := dR_l1 hu
                  have hq2 := gP.1
                  show Rj _ _ _ _ _ _ (94, [some (.ref 95), some (.int 1), some (.int 18), some (.int (nI k)), some (.int 47), some (.int 0)], [.int 1], (SS b true), Xu, J, 0, 0)
                  refine r_run okX5_readSum 3 (cs := []) (σ' := (104, [some (.ref 95), some (.int 1), some (.int 18), some (.int (nI k)), some (.int 47), some (.int 0)], [.int 0], (SS b true), Xu, J, 0, 0)) rfl trivial ?_
                  refine r_ifc okX5_readSum rfl (fun (h104_1 : (0 : Int32) = (0 : Int32)) => ?_) (fun (h104_1 : ¬ (0 : Int32) = (0 : Int32)) => ?_)
                  · refine r_run okX5_readSum 2 (cs := []) (σ' := (117, [some (.ref 95), some (.int 1), some (.int 18), some (.int (nI k)), some (.int 47), some (.int 0)], [.int 42, .int 47], (SS b true), Xu, J, 0, 0)) rfl trivial ?_
                    refine r_icmp okX5_readSum rfl (fun (h117_1 : ¬ (47 : Int32) = (42 : Int32)) => ?_) (fun h117_10 => ?_)
                    · refine r_run okX5_readSum 2 (cs := []) (σ' := (10, [some (.ref 95), some (.int 1), some (.int 18), some (.int ((nI k) + 1)), some (.int 47), some (.int 0)], [], (SS b true), Xu, J, 0, 0)) rfl trivial ?_
                      rw [← nI_succ]
                      refine r_weak (L' := [some (.ref 95), some (.int 1), some (.int 18), some (.int (nI (k + 1))), none, none]) ⟨rfl, rfl, rfl, rfl, trivial⟩ ?_
                      refine K q _ hu (Tkn_k (A := 79) (by decide) hfr hTa) gP ?_ (fr_t hfa hfr)
                      rw [show l ++ (acc ++ q.1) = l ++ acc ++ q.1 by simp only [List.append_assoc]]
                      exact gO
                    · have h117_1 : (47 : Int32) = (42 : Int32) := Classical.not_not.mp h117_10
                      exact absurd h117_1 (by decide)
                  · exact absurd h104_1 (by decide)
            · exact absurd h60 (by decide)
          · have h48 : (47 : Int32) = (45 : Int32) := Classical.not_not.mp h480
            exact absurd h48 (by decide)
theorem sm_end1_79 (γ : GE) {b : Bool} {J : AJ} {T : Nat → Int32} {n N i0 : Nat} {l : Cd} {X0 : AI} {X : AI} {i k : Nat} {acc : Cd} (h1 : ¬ kK T n i = 43) (h2 : ¬ kK T n i = 45) (h3 : ¬ kK T n i = 42) (h4 : ¬ kK T n i = 47) (hT : Tkn T n N X) (hP : PsO T n N X i) (hO : OuO X 79 (l ++ acc)) (hl : (l ++ acc).length + (wC (some 2)).length ≤ i) (hk : k ≤ i) (hf : fr (qX 79) X0 X) (hd : ∀ res, (∃ f, SmT T n f (some 2) i acc res) → Sm T n i0 res) : Rj γ mX5_readSum 2 0 0 (fun r S' I' J' => (SS b true) = S' ∧ J = J' ∧ ∃ res, Sm T n i0 res ∧ RsO T n N 79 X0 l res r I') (10, [some (.ref 95), some (.int 1), some (.int 43), some (.int (nI k)), none, none], [], (SS b true), X, J, 0, 0) := by
  have hlw : (wC (some 2)).length = 1 := rfl
  have hN := hT.1
  have hiN := hP.1
  have e7 := hP.2.2.1
  have k800 : k ≤ 800 := by omega
  refine r_run okX5_readSum 2 (cs := []) (σ' := (14, [some (.ref 95), some (.int 1), some (.int 43), some (.int (nI k)), none, none], [.int 800, .int (nI k)], (SS b true), X, J, 0, 0)) rfl trivial ?_
  refine r_icmp okX5_readSum rfl (fun (h14 : (800 : Int32) ≤ (nI k)) => ?_) (fun (h14 : ¬ (800 : Int32) ≤ (nI k)) => ?_)
  · refine r_run okX5_readSum 2 (cs := []) (σ' := (140, [some (.ref 95), some (.int 1), some (.int 43), some (.int (nI k)), none, none], [.int 18, .int 43], (SS b true), X, J, 0, 0)) rfl trivial ?_
    refine r_icmp okX5_readSum rfl (fun (h140 : (43 : Int32) = (18 : Int32)) => ?_) (fun (h140 : ¬ (43 : Int32) = (18 : Int32)) => ?_)
    · exact absurd h140 (by decide)
    · refine r_run okX5_readSum 4 (cs := []) (σ' := (149, [some (.ref 95), some (.int 1), some (.int 43), some (.int (nI k)), none, none], [.int 0, .int 43, .ref 79], (SS b true), X, J, 0, 0)) rfl trivial ?_
      refine r_callV okX5_readSum okX6_add [.int 43, .int 0] [] 79 rfl rfl rfl kkX6_add rfl rfl (by decide) rfl rfl rfl (by decide) ⟨Nat.le_refl _, Nat.le_refl _⟩ (Nat.le_of_ble_eq_true rfl) (a_add79 γ hO (by simp only [List.length_append, List.length_cons, List.length_nil] at *; omega) (p := (2, 0)) rfl) (fun v1 S1 I1 J1 hp => ?_)
      obtain ⟨rfl, rfl, ⟨fXe, oXe⟩, rfl⟩ := hp
      obtain ⟨Xe, eXe⟩ : ∃ z, z = I1 := ⟨_, rfl⟩
      subst eXe
      show Rj _ _ _ _ _ _ (152, [some (.ref 95), some (.int 1), some (.int 43), some (.int (nI k)), none, none], [.int 1], (SS b true), Xe, J, 0, 0)
      refine r_run okX5_readSum 2 (cs := []) (σ' := (154, [some (.ref 95), some (.int 1), some (.int 43), some (.int (nI k)), none, none], [.int 1], (SS b true), Xe, J, 0, 0)) rfl trivial ?_
      refine r_iret okX5_readSum rfl rfl (by decide +kernel) (Nat.le_refl _) (Nat.le_refl _) ?_
      have hs : SmT T n 1 (some 2) i acc (.inr (acc ++ wC (some 2), i)) := by
        unfold SmT; rw [if_neg (fun z => z.elim h1 h2), if_neg h3, if_neg h4]
      exact ⟨rfl, rfl, _, hd _ ⟨1, hs⟩, fr_t hf (fA_X fXe), rfl, PsO_k (by decide) fXe hP, by show OuO Xe 79 (l ++ (acc ++ [(2, 0)])); rw [← List.append_assoc]; exact oXe⟩
  · refine r_run okX5_readSum 1 (cs := []) (σ' := (18, [some (.ref 95), some (.int 1), some (.int 43), some (.int (nI k)), none, none], [.int 1], (SS b true), X, J, 0, 0)) rfl trivial ?_
    refine r_ifc okX5_readSum rfl (fun (h18 : (1 : Int32) = (0 : Int32)) => ?_) (fun (h18 : ¬ (1 : Int32) = (0 : Int32)) => ?_)
    · exact absurd h18 (by decide)
    · refine r_run okX5_readSum 2 (cs := []) (σ' := (25, [some (.ref 95), some (.int 1), some (.int 43), some (.int (nI k)), none, none], [.int (X 95 7)], (SS b true), X, J, 0, 0)) rfl trivial ?_
      simp only [e7]
      show Rj _ _ _ _ _ _ (25, [some (.ref 95), some (.int 1), some (.int 43), some (.int (nI k)), none, none], [.int (kK T n i)], (SS b true), X, J, 0, 0)
      refine r_callS okX5_readSum okX5_isReckoning [.int (kK T n i)] [] rfl rfl rfl kkX5_isReckoning rfl rfl (by decide) (by decide) ⟨Nat.le_refl _, Nat.le_refl _⟩ (Nat.le_of_ble_eq_true rfl) (b_rkn γ h1 h2 h3 h4) (fun v1 S1 I1 J1 hp => ?_)
      obtain ⟨rfl, rfl, rfl, rfl⟩ := hp
      show Rj _ _ _ _ _ _ (28, [some (.ref 95), some (.int 1), some (.int 43), some (.int (nI k)), none, none], [.int 0], (SS b true), X, J, 0, 0)
      refine r_ifc okX5_readSum rfl (fun (h28 : (0 : Int32) = (0 : Int32)) => ?_) (fun (h28 : ¬ (0 : Int32) = (0 : Int32)) => ?_)
      · refine r_run okX5_readSum 2 (cs := []) (σ' := (140, [some (.ref 95), some (.int 1), some (.int 43), some (.int (nI k)), none, none], [.int 18, .int 43], (SS b true), X, J, 0, 0)) rfl trivial ?_
        refine r_icmp okX5_readSum rfl (fun (h140_1 : (43 : Int32) = (18 : Int32)) => ?_) (fun (h140_1 : ¬ (43 : Int32) = (18 : Int32)) => ?_)
        · exact absurd h140_1 (by decide)
        · refine r_run okX5_readSum 4 (cs := []) (σ' := (149, [some (.ref 95), some (.int 1), some (.int 43), some (.int (nI k)), none, none], [.int 0, .int 43, .ref 79], (SS b true), X, J, 0, 0)) rfl trivial ?_
          refine r_callV okX5_readSum okX6_add [.int 43, .int 0] [] 79 rfl rfl rfl kkX6_add rfl rfl (by decide) rfl rfl rfl (by decide) ⟨Nat.le_refl _, Nat.le_refl _⟩ (Nat.le_of_ble_eq_true rfl) (a_add79 γ hO (by simp only [List.length_append, List.length_cons, List.length_nil] at *; omega) (p := (2, 0)) rfl) (fun v1 S1 I1 J1 hp => ?_)
          obtain ⟨rfl, rfl, ⟨fXe, oXe⟩, rfl⟩ := hp
          obtain ⟨Xe, eXe⟩ : ∃ z, z = I1 := ⟨_, rfl⟩
          subst eXe
          show Rj _ _ _ _ _ _ (152, [some (.ref 95), some (.int 1), some (.int 43), some (.int (nI k)), none, none], [.int 1], (SS b true), Xe, J, 0, 0)
          refine r_run okX5_readSum 2 (cs := []) (σ' := (154, [some (.ref 95), some (.int 1), some (.int 43), some (.int (nI k)), none, none], [.int 1], (SS b true), Xe, J, 0, 0)) rfl trivial ?_
          refine r_iret okX5_readSum rfl rfl (by decide +kernel) (Nat.le_refl _) (Nat.le_refl _) ?_
          have hs : SmT T n 1 (some 2) i acc (.inr (acc ++ wC (some 2), i)) := by
            unfold SmT; rw [if_neg (fun z => z.elim h1 h2), if_neg h3, if_neg h4]
          exact ⟨rfl, rfl, _, hd _ ⟨1, hs⟩, fr_t hf (fA_X fXe), rfl, PsO_k (by decide) fXe hP, by show OuO Xe 79 (l ++ (acc ++ [(2, 0)])); rw [← List.append_assoc]; exact oXe⟩
      · exact absurd h28 (by decide)
theorem sm_43_1_79 (γ : GE) {b : Bool} {J : AJ} {T : Nat → Int32} {n N i0 : Nat} {l : Cd} {X0 : AI} {X : AI} {i k : Nat} {acc : Cd} (h : kK T n i = 43) (hT : Tkn T n N X) (hP : PsO T n N X i) (hO : OuO X 79 (l ++ acc)) (hl : (l ++ acc).length + (wC (some 2)).length ≤ i) (hk : k ≤ i) (hf : fr (qX 79) X0 X) (hd : ∀ res, (∃ f, SmT T n f (some 2) i acc res) → Sm T n i0 res) (K : ∀ (q : Cd × Nat) (Y : AI), uR T n (i + 1) = .inr q → Tkn T n N Y → PsO T n N Y q.2 → OuO Y 79 (l ++ (acc ++ wC (some 2) ++ q.1)) → fr (qX 79) X0 Y → Rj γ mX5_readSum 2 0 0 (fun r S' I' J' => (SS b true) = S' ∧ J = J' ∧ ∃ res, Sm T n i0 res ∧ RsO T n N 79 X0 l res r I') (10, [some (.ref 95), some (.int 1), some (.int 43), some (.int (nI (k + 1))), none, none], [], (SS b true), Y, J, 0, 0)) : Rj γ mX5_readSum 2 0 0 (fun r S' I' J' => (SS b true) = S' ∧ J = J' ∧ ∃ res, Sm T n i0 res ∧ RsO T n N 79 X0 l res r I') (10, [some (.ref 95), some (.int 1), some (.int 43), some (.int (nI k)), none, none], [], (SS b true), X, J, 0, 0) := by
  have hlw : (wC (some 2)).length = 1 := rfl
  have hN := hT.1
  have hiN := hP.1
  have e7 : X 95 7 = 43 := hP.2.2.1.trans h
  have hi : i < N := kK_lt hT hiN (by rw [h]; decide)
  refine r_run okX5_readSum 2 (cs := []) (σ' := (14, [some (.ref 95), some (.int 1), some (.int 43), some (.int (nI k)), none, none], [.int 800, .int (nI k)], (SS b true), X, J, 0, 0)) rfl trivial ?_
  refine r_icmp okX5_readSum rfl (fun (h14 : (800 : Int32) ≤ (nI k)) => ?_) (fun (h14 : ¬ (800 : Int32) ≤ (nI k)) => ?_)
  · exact absurd h14 (nI_ge (b := 800) (by omega) (by decide))
  · refine r_run okX5_readSum 1 (cs := []) (σ' := (18, [some (.ref 95), some (.int 1), some (.int 43), some (.int (nI k)), none, none], [.int 1], (SS b true), X, J, 0, 0)) rfl trivial ?_
    refine r_ifc okX5_readSum rfl (fun (h18 : (1 : Int32) = (0 : Int32)) => ?_) (fun (h18 : ¬ (1 : Int32) = (0 : Int32)) => ?_)
    · exact absurd h18 (by decide)
    · refine r_run okX5_readSum 2 (cs := []) (σ' := (25, [some (.ref 95), some (.int 1), some (.int 43), some (.int (nI k)), none, none], [.int (X 95 7)], (SS b true), X, J, 0, 0)) rfl trivial ?_
      simp only [e7]
      show Rj _ _ _ _ _ _ (25, [some (.ref 95), some (.int 1), some (.int 43), some (.int (nI k)), none, none], [.int 43], (SS b true), X, J, 0, 0)
      refine r_callS okX5_readSum okX5_isReckoning [.int 43] [] rfl rfl rfl kkX5_isReckoning rfl rfl (by decide) (by decide) ⟨Nat.le_refl _, Nat.le_refl _⟩ (Nat.le_of_ble_eq_true rfl) (b_rk43 γ) (fun v1 S1 I1 J1 hp => ?_)
      obtain ⟨rfl, rfl, rfl, rfl⟩ := hp
      show Rj _ _ _ _ _ _ (28, [some (.ref 95), some (.int 1), some (.int 43), some (.int (nI k)), none, none], [.int 1], (SS b true), X, J, 0, 0)
      refine r_ifc okX5_readSum rfl (fun (h28 : (1 : Int32) = (0 : Int32)) => ?_) (fun (h28 : ¬ (1 : Int32) = (0 : Int32)) => ?_)
      · exact absurd h28 (by decide)
      · refine r_run okX5_readSum 5 (cs := []) (σ' := (41, [some (.ref 95), some (.int 1), some (.int 43), some (.int (nI k)), some (.int (X 95 7)), none], [.int 43, .int (X 95 7)], (SS b true), X, J, 0, 0)) rfl trivial ?_
        simp only [e7]
        show Rj _ _ _ _ _ _ (41, [some (.ref 95), some (.int 1), some (.int 43), some (.int (nI k)), some (.int 43), none], [.int 43, .int 43], (SS b true), X, J, 0, 0)
        refine r_icmp okX5_readSum rfl (fun (h41 : (43 : Int32) = (43 : Int32)) => ?_) (fun (h41 : ¬ (43 : Int32) = (43 : Int32)) => ?_)
        · refine r_run okX5_readSum 4 (cs := []) (σ' := (60, [some (.ref 95), some (.int 1), some (.int 43), some (.int (nI k)), some (.int 43), some (.int 1)], [.int 1], (SS b true), X, J, 0, 0)) rfl trivial ?_
          refine r_ifc okX5_readSum rfl (fun (h60 : (1 : Int32) = (0 : Int32)) => ?_) (fun (h60 : ¬ (1 : Int32) = (0 : Int32)) => ?_)
          · exact absurd h60 (by decide)
          · refine r_run okX5_readSum 2 (cs := []) (σ' := (66, [some (.ref 95), some (.int 1), some (.int 43), some (.int (nI k)), some (.int 43), some (.int 1)], [.int 18, .int 43], (SS b true), X, J, 0, 0)) rfl trivial ?_
            refine r_icmp okX5_readSum rfl (fun (h66 : (43 : Int32) = (18 : Int32)) => ?_) (fun (h66 : ¬ (43 : Int32) = (18 : Int32)) => ?_)
            · exact absurd h66 (by decide)
            · refine r_run okX5_readSum 4 (cs := []) (σ' := (75, [some (.ref 95), some (.int 1), some (.int 43), some (.int (nI k)), some (.int 43), some (.int 1)], [.int 0, .int 43, .ref 79], (SS b true), X, J, 0, 0)) rfl trivial ?_
              refine r_callV okX5_readSum okX6_add [.int 43, .int 0] [] 79 rfl rfl rfl kkX6_add rfl rfl (by decide) rfl rfl rfl (by decide) ⟨Nat.le_refl _, Nat.le_refl _⟩ (Nat.le_of_ble_eq_true rfl) (a_add79 γ hO (by simp only [List.length_append, List.length_cons, List.length_nil] at *; omega) (p := (2, 0)) rfl) (fun v1 S1 I1 J1 hp => ?_)
              obtain ⟨rfl, rfl, ⟨fXw, oXw⟩, rfl⟩ := hp
              obtain ⟨Xw, eXw⟩ : ∃ z, z = I1 := ⟨_, rfl⟩
              subst eXw
              show Rj _ _ _ _ _ _ (78, [some (.ref 95), some (.int 1), some (.int 43), some (.int (nI k)), some (.int 43), some (.int 1)], [.int 1], (SS b true), Xw, J, 0, 0)
              refine r_run okX5_readSum 2 (cs := []) (σ' := (80, [some (.ref 95), some (.int 1), some (.int 43), some (.int (nI k)), some (.int 43), some (.int 1)], [.ref 95], (SS b true), Xw, J, 0, 0)) rfl trivial ?_
              refine r_callV okX5_readSum okX5_advance [] [] 95 rfl rfl rfl kkX5_advance rfl rfl (by decide) rfl rfl rfl (by decide) ⟨Nat.le_refl _, Nat.le_refl _⟩ (Nat.le_of_ble_eq_true rfl) (b_adv79 γ (Tkn_k (A := 79) (by decide) (fA_X fXw) hT) (PsO_k (by decide) fXw hP) hi) (fun v1 S1 I1 J1 hp => ?_)
              obtain ⟨rfl, rfl, ⟨fXa, pXa⟩, rfl⟩ := hp
              obtain ⟨Xa, eXa⟩ : ∃ z, z = I1 := ⟨_, rfl⟩
              subst eXa
              have hTa : Tkn T n N Xa := Tkn_k (A := 79) (by decide) (f9_X fXa) (Tkn_k (A := 79) (by decide) (fA_X fXw) hT)
              have hOa := OuO_9 (by decide) fXa oXw
              have hfa : fr (qX 79) X0 Xa := fr_t hf (fr_t (fA_X fXw) (f9_X fXa))
              show Rj _ _ _ _ _ _ (83, [some (.ref 95), some (.int 1), some (.int 43), some (.int (nI k)), some (.int 43), some (.int 1)], [], (SS b true), Xa, J, 0, 0)
              refine r_run okX5_readSum 2 (cs := []) (σ' := (87, [some (.ref 95), some (.int 1), some (.int 43), some (.int (nI k)), some (.int 43), some (.int 1)], [.int 47, .int 43], (SS b true), Xa, J, 0, 0)) rfl trivial ?_
              refine r_icmp okX5_readSum rfl (fun (h87 : ¬ (43 : Int32) = (47 : Int32)) => ?_) (fun h870 => ?_)
              · refine r_run okX5_readSum 1 (cs := []) (σ' := (98, [some (.ref 95), some (.int 1), some (.int 43), some (.int (nI k)), some (.int 43), some (.int 1)], [.ref 95], (SS b true), Xa, J, 0, 0)) rfl trivial ?_
                refine r_callV okX5_readSum okX5_readUnit [] [] 95 rfl rfl rfl kkX5_readUnit rfl rfl (by decide) rfl rfl rfl (by decide) ⟨Nat.le_refl _, Nat.le_refl _⟩ (Nat.le_of_ble_eq_true rfl) (b_unit79 γ hTa pXa hOa (by simp only [List.length_append, List.length_cons, List.length_nil] at *; omega)) (fun v1 S1 I1 J1 hp => ?_)
                obtain ⟨rfl, rfl, hfr, hr⟩ := hp
                obtain ⟨Xu, eXu⟩ : ∃ z, z = I1 := ⟨_, rfl⟩
                subst eXu
                cases hu : uR T n (i + 1) with
                | inl e =>
                  rw [hu] at hr
                  obtain ⟨rfl, gF, gE⟩ := hr
                  have hfu : fr (qX 79) X0 Xu := fr_t hfa hfr
                  have hs : SmT T n 1 (some 2) i acc (.inl e) := by unfold SmT; rw [if_pos (Or.inl h)]; simp only [hu]
                  show Rj _ _ _ _ _ _ (101, [some (.ref 95), some (.int 1), some (.int 43), some (.int (nI k)), some (.int 43), some (.int 1)], [.int 0], (SS b true), Xu, J, 0, 0)
                  refine r_run okX5_readSum 2 (cs := []) (σ' := (104, [some (.ref 95), some (.int 0), some (.int 43), some (.int (nI k)), some (.int 43), some (.int 1)], [.int 1], (SS b true), Xu, J, 0, 0)) rfl trivial ?_
                  refine r_ifc okX5_readSum rfl (fun (h104 : (1 : Int32) = (0 : Int32)) => ?_) (fun (h104 : ¬ (1 : Int32) = (0 : Int32)) => ?_)
                  · exact absurd h104 (by decide)
                  · refine r_run okX5_readSum 7 (cs := []) (σ' := (14, [some (.ref 95), some (.int 0), some (.int 43), some (.int ((nI k) + 1)), some (.int 43), some (.int 1)], [.int 800, .int ((nI k) + 1)], (SS b true), Xu, J, 0, 0)) rfl trivial ?_
                    refine r_icmp okX5_readSum rfl (fun (h14_1 : (800 : Int32) ≤ ((nI k) + 1)) => ?_) (fun (h14_1 : ¬ (800 : Int32) ≤ ((nI k) + 1)) => ?_)
                    · refine r_run okX5_readSum 2 (cs := []) (σ' := (140, [some (.ref 95), some (.int 0), some (.int 43), some (.int ((nI k) + 1)), some (.int 43), some (.int 1)], [.int 18, .int 43], (SS b true), Xu, J, 0, 0)) rfl trivial ?_
                      refine r_icmp okX5_readSum rfl (fun (h140 : (43 : Int32) = (18 : Int32)) => ?_) (fun (h140 : ¬ (43 : Int32) = (18 : Int32)) => ?_)
                      · exact absurd h140 (by decide)
                      · refine r_run okX5_readSum 4 (cs := []) (σ' := (149, [some (.ref 95), some (.int 0), some (.int 43), some (.int ((nI k) + 1)), some (.int 43), some (.int 1)], [.int 0, .int 43, .ref 79], (SS b true), Xu, J, 0, 0)) rfl trivial ?_
                        refine r_callV okX5_readSum okX6_add [.int 43, .int 0] [] 79 rfl rfl rfl kkX6_add rfl rfl (by decide) rfl rfl rfl (by decide) ⟨Nat.le_refl _, Nat.le_refl _⟩ (Nat.le_of_ble_eq_true rfl) (a_addF79 γ gF 43 0) (fun v1 S1 I1 J1 hp => ?_)
                        obtain ⟨⟨zXf1, rfl⟩, rfl, ⟨fXf1, oXf1⟩, rfl⟩ := hp
                        obtain ⟨Xf1, eXf1⟩ : ∃ z, z = I1 := ⟨_, rfl⟩
                        subst eXf1
                        show Rj _ _ _ _ _ _ (152, [some (.ref 95), some (.int 0), some (.int 43), some (.int ((nI k) + 1)), some (.int 43), some (.int 1)], [.int zXf1], (SS b true), Xf1, J, 0, 0)
                        refine r_run okX5_readSum 2 (cs := []) (σ' := (154, [some (.ref 95), some (.int 0), some (.int 43), some (.int ((nI k) + 1)), some (.int 43), some (.int 1)], [.int 0], (SS b true), Xf1, J, 0, 0)) rfl trivial ?_
                        refine r_iret okX5_readSum rfl rfl (by decide +kernel) (Nat.le_refl _) (Nat.le_refl _) ?_
                        exact ⟨rfl, rfl, .inl e, hd _ ⟨1, hs⟩, (fr_t hfu (fA_X fXf1)), rfl, oXf1, (FlO_k (by decide) fXf1 gE)⟩
                    · refine r_run okX5_readSum 1 (cs := []) (σ' := (18, [some (.ref 95), some (.int 0), some (.int 43), some (.int ((nI k) + 1)), some (.int 43), some (.int 1)], [.int 0], (SS b true), Xu, J, 0, 0)) rfl trivial ?_
                      refine r_ifc okX5_readSum rfl (fun (h18_1 : (0 : Int32) = (0 : Int32)) => ?_) (fun (h18_1 : ¬ (0 : Int32) = (0 : Int32)) => ?_)
                      · refine r_run okX5_readSum 2 (cs := []) (σ' := (140, [some (.ref 95), some (.int 0), some (.int 43), some (.int ((nI k) + 1)), some (.int 43), some (.int 1)], [.int 18, .int 43], (SS b true), Xu, J, 0, 0)) rfl trivial ?_
                        refine r_icmp okX5_readSum rfl (fun (h140_1 : (43 : Int32) = (18 : Int32)) => ?_) (fun (h140_1 : ¬ (43 : Int32) = (18 : Int32)) => ?_)
                        · exact absurd h140_1 (by decide)
                        · refine r_run okX5_readSum 4 (cs := []) (σ' := (149, [some (.ref 95), some (.int 0), some (.int 43), some (.int ((nI k) + 1)), some (.int 43), some (.int 1)], [.int 0, .int 43, .ref 79], (SS b true), Xu, J, 0, 0)) rfl trivial ?_
                          refine r_callV okX5_readSum okX6_add [.int 43, .int 0] [] 79 rfl rfl rfl kkX6_add rfl rfl (by decide) rfl rfl rfl (by decide) ⟨Nat.le_refl _, Nat.le_refl _⟩ (Nat.le_of_ble_eq_true rfl) (a_addF79 γ gF 43 0) (fun v1 S1 I1 J1 hp => ?_)
                          obtain ⟨⟨zXf1, rfl⟩, rfl, ⟨fXf1, oXf1⟩, rfl⟩ := hp
                          obtain ⟨Xf1, eXf1⟩ : ∃ z, z = I1 := ⟨_, rfl⟩
                          subst eXf1
                          show Rj _ _ _ _ _ _ (152, [some (.ref 95), some (.int 0), some (.int 43), some (.int ((nI k) + 1)), some (.int 43), some (.int 1)], [.int zXf1], (SS b true), Xf1, J, 0, 0)
                          refine r_run okX5_readSum 2 (cs := []) (σ' := (154, [some (.ref 95), some (.int 0), some (.int 43), some (.int ((nI k) + 1)), some (.int 43), some (.int 1)], [.int 0], (SS b true), Xf1, J, 0, 0)) rfl trivial ?_
                          refine r_iret okX5_readSum rfl rfl (by decide +kernel) (Nat.le_refl _) (Nat.le_refl _) ?_
                          exact ⟨rfl, rfl, .inl e, hd _ ⟨1, hs⟩, (fr_t hfu (fA_X fXf1)), rfl, oXf1, (FlO_k (by decide) fXf1 gE)⟩
                      · exact absurd h18_1 (by decide)
                | inr q =>
                  rw [hu] at hr
                  obtain ⟨rfl, gP, gO⟩ := hr
                  have hq1 := uR_l1 hu
                  have hq2 := gP.1
                  show Rj _ _ _ _ _ _ (101, [some (.ref 95), some (.int 1), some (.int 43), some (.int (nI k)), some (.int 43), some (.int 1)], [.int 1], (SS b true), Xu, J, 0, 0)
                  refine r_run okX5_readSum 2 (cs := []) (σ' := (104, [some (.ref 95), some (.int 1), some (.int 43), some (.int (nI k)), some (.int 43), some (.int 1)], [.int 1], (SS b true), Xu, J, 0, 0)) rfl trivial ?_
                  refine r_ifc okX5_readSum rfl (fun (h104_1 : (1 : Int32) = (0 : Int32)) => ?_) (fun (h104_1 : ¬ (1 : Int32) = (0 : Int32)) => ?_)
                  · exact absurd h104_1 (by decide)
                  · refine r_run okX5_readSum 5 (cs := []) (σ' := (10, [some (.ref 95), some (.int 1), some (.int 43), some (.int ((nI k) + 1)), some (.int 43), some (.int 1)], [], (SS b true), Xu, J, 0, 0)) rfl trivial ?_
                    rw [← nI_succ]
                    refine r_weak (L' := [some (.ref 95), some (.int 1), some (.int 43), some (.int (nI (k + 1))), none, none]) ⟨rfl, rfl, rfl, rfl, trivial⟩ ?_
                    refine K q _ hu (Tkn_k (A := 79) (by decide) hfr hTa) gP ?_ (fr_t hfa hfr)
                    rw [show l ++ (acc ++ wC (some 2) ++ q.1) = l ++ acc ++ wC (some 2) ++ q.1 by simp only [List.append_assoc]]
                    exact gO
              · have h87 : (43 : Int32) = (47 : Int32) := Classical.not_not.mp h870
                exact absurd h87 (by decide)
        · exact absurd h41 (by decide)
theorem sm_45_1_79 (γ : GE) {b : Bool} {J : AJ} {T : Nat → Int32} {n N i0 : Nat} {l : Cd} {X0 : AI} {X : AI} {i k : Nat} {acc : Cd} (h : kK T n i = 45) (hT : Tkn T n N X) (hP : PsO T n N X i) (hO : OuO X 79 (l ++ acc)) (hl : (l ++ acc).length + (wC (some 2)).length ≤ i) (hk : k ≤ i) (hf : fr (qX 79) X0 X) (hd : ∀ res, (∃ f, SmT T n f (some 2) i acc res) → Sm T n i0 res) (K : ∀ (q : Cd × Nat) (Y : AI), uR T n (i + 1) = .inr q → Tkn T n N Y → PsO T n N Y q.2 → OuO Y 79 (l ++ (acc ++ wC (some 2) ++ q.1)) → fr (qX 79) X0 Y → Rj γ mX5_readSum 2 0 0 (fun r S' I' J' => (SS b true) = S' ∧ J = J' ∧ ∃ res, Sm T n i0 res ∧ RsO T n N 79 X0 l res r I') (10, [some (.ref 95), some (.int 1), some (.int 45), some (.int (nI (k + 1))), none, none], [], (SS b true), Y, J, 0, 0)) : Rj γ mX5_readSum 2 0 0 (fun r S' I' J' => (SS b true) = S' ∧ J = J' ∧ ∃ res, Sm T n i0 res ∧ RsO T n N 79 X0 l res r I') (10, [some (.ref 95), some (.int 1), some (.int 43), some (.int (nI k)), none, none], [], (SS b true), X, J, 0, 0) := by
  have hlw : (wC (some 2)).length = 1 := rfl
  have hN := hT.1
  have hiN := hP.1
  have e7 : X 95 7 = 45 := hP.2.2.1.trans h
  have hi : i < N := kK_lt hT hiN (by rw [h]; decide)
  refine r_run okX5_readSum 2 (cs := []) (σ' := (14, [some (.ref 95), some (.int 1), some (.int 43), some (.int (nI k)), none, none], [.int 800, .int (nI k)], (SS b true), X, J, 0, 0)) rfl trivial ?_
  refine r_icmp okX5_readSum rfl (fun (h14 : (800 : Int32) ≤ (nI k)) => ?_) (fun (h14 : ¬ (800 : Int32) ≤ (nI k)) => ?_)
  · exact absurd h14 (nI_ge (b := 800) (by omega) (by decide))
  · refine r_run okX5_readSum 1 (cs := []) (σ' := (18, [some (.ref 95), some (.int 1), some (.int 43), some (.int (nI k)), none, none], [.int 1], (SS b true), X, J, 0, 0)) rfl trivial ?_
    refine r_ifc okX5_readSum rfl (fun (h18 : (1 : Int32) = (0 : Int32)) => ?_) (fun (h18 : ¬ (1 : Int32) = (0 : Int32)) => ?_)
    · exact absurd h18 (by decide)
    · refine r_run okX5_readSum 2 (cs := []) (σ' := (25, [some (.ref 95), some (.int 1), some (.int 43), some (.int (nI k)), none, none], [.int (X 95 7)], (SS b true), X, J, 0, 0)) rfl trivial ?_
      simp only [e7]
      show Rj _ _ _ _ _ _ (25, [some (.ref 95), some (.int 1), some (.int 43), some (.int (nI k)), none, none], [.int 45], (SS b true), X, J, 0, 0)
      refine r_callS okX5_readSum okX5_isReckoning [.int 45] [] rfl rfl rfl kkX5_isReckoning rfl rfl (by decide) (by decide) ⟨Nat.le_refl _, Nat.le_refl _⟩ (Nat.le_of_ble_eq_true rfl) (b_rk45 γ) (fun v1 S1 I1 J1 hp => ?_)
      obtain ⟨rfl, rfl, rfl, rfl⟩ := hp
      show Rj _ _ _ _ _ _ (28, [some (.ref 95), some (.int 1), some (.int 43), some (.int (nI k)), none, none], [.int 1], (SS b true), X, J, 0, 0)
      refine r_ifc okX5_readSum rfl (fun (h28 : (1 : Int32) = (0 : Int32)) => ?_) (fun (h28 : ¬ (1 : Int32) = (0 : Int32)) => ?_)
      · exact absurd h28 (by decide)
      · refine r_run okX5_readSum 5 (cs := []) (σ' := (41, [some (.ref 95), some (.int 1), some (.int 43), some (.int (nI k)), some (.int (X 95 7)), none], [.int 43, .int (X 95 7)], (SS b true), X, J, 0, 0)) rfl trivial ?_
        simp only [e7]
        show Rj _ _ _ _ _ _ (41, [some (.ref 95), some (.int 1), some (.int 43), some (.int (nI k)), some (.int 45), none], [.int 43, .int 45], (SS b true), X, J, 0, 0)
        refine r_icmp okX5_readSum rfl (fun (h41 : (45 : Int32) = (43 : Int32)) => ?_) (fun (h41 : ¬ (45 : Int32) = (43 : Int32)) => ?_)
        · exact absurd h41 (by decide)
        · refine r_run okX5_readSum 2 (cs := []) (σ' := (48, [some (.ref 95), some (.int 1), some (.int 43), some (.int (nI k)), some (.int 45), none], [.int 45, .int 45], (SS b true), X, J, 0, 0)) rfl trivial ?_
          refine r_icmp okX5_readSum rfl (fun (h48 : ¬ (45 : Int32) = (45 : Int32)) => ?_) (fun h480 => ?_)
          · exact absurd h48 (by decide)
          · have h48 : (45 : Int32) = (45 : Int32) := Classical.not_not.mp h480
            refine r_run okX5_readSum 4 (cs := []) (σ' := (60, [some (.ref 95), some (.int 1), some (.int 43), some (.int (nI k)), some (.int 45), some (.int 1)], [.int 1], (SS b true), X, J, 0, 0)) rfl trivial ?_
            refine r_ifc okX5_readSum rfl (fun (h60 : (1 : Int32) = (0 : Int32)) => ?_) (fun (h60 : ¬ (1 : Int32) = (0 : Int32)) => ?_)
            · exact absurd h60 (by decide)
            · refine r_run okX5_readSum 2 (cs := []) (σ' := (66, [some (.ref 95), some (.int 1), some (.int 43), some (.int (nI k)), some (.int 45), some (.int 1)], [.int 18, .int 43], (SS b true), X, J, 0, 0)) rfl trivial ?_
              refine r_icmp okX5_readSum rfl (fun (h66 : (43 : Int32) = (18 : Int32)) => ?_) (fun (h66 : ¬ (43 : Int32) = (18 : Int32)) => ?_)
              · exact absurd h66 (by decide)
              · refine r_run okX5_readSum 4 (cs := []) (σ' := (75, [some (.ref 95), some (.int 1), some (.int 43), some (.int (nI k)), some (.int 45), some (.int 1)], [.int 0, .int 43, .ref 79], (SS b true), X, J, 0, 0)) rfl trivial ?_
                refine r_callV okX5_readSum okX6_add [.int 43, .int 0] [] 79 rfl rfl rfl kkX6_add rfl rfl (by decide) rfl rfl rfl (by decide) ⟨Nat.le_refl _, Nat.le_refl _⟩ (Nat.le_of_ble_eq_true rfl) (a_add79 γ hO (by simp only [List.length_append, List.length_cons, List.length_nil] at *; omega) (p := (2, 0)) rfl) (fun v1 S1 I1 J1 hp => ?_)
                obtain ⟨rfl, rfl, ⟨fXw, oXw⟩, rfl⟩ := hp
                obtain ⟨Xw, eXw⟩ : ∃ z, z = I1 := ⟨_, rfl⟩
                subst eXw
                show Rj _ _ _ _ _ _ (78, [some (.ref 95), some (.int 1), some (.int 43), some (.int (nI k)), some (.int 45), some (.int 1)], [.int 1], (SS b true), Xw, J, 0, 0)
                refine r_run okX5_readSum 2 (cs := []) (σ' := (80, [some (.ref 95), some (.int 1), some (.int 43), some (.int (nI k)), some (.int 45), some (.int 1)], [.ref 95], (SS b true), Xw, J, 0, 0)) rfl trivial ?_
                refine r_callV okX5_readSum okX5_advance [] [] 95 rfl rfl rfl kkX5_advance rfl rfl (by decide) rfl rfl rfl (by decide) ⟨Nat.le_refl _, Nat.le_refl _⟩ (Nat.le_of_ble_eq_true rfl) (b_adv79 γ (Tkn_k (A := 79) (by decide) (fA_X fXw) hT) (PsO_k (by decide) fXw hP) hi) (fun v1 S1 I1 J1 hp => ?_)
                obtain ⟨rfl, rfl, ⟨fXa, pXa⟩, rfl⟩ := hp
                obtain ⟨Xa, eXa⟩ : ∃ z, z = I1 := ⟨_, rfl⟩
                subst eXa
                have hTa : Tkn T n N Xa := Tkn_k (A := 79) (by decide) (f9_X fXa) (Tkn_k (A := 79) (by decide) (fA_X fXw) hT)
                have hOa := OuO_9 (by decide) fXa oXw
                have hfa : fr (qX 79) X0 Xa := fr_t hf (fr_t (fA_X fXw) (f9_X fXa))
                show Rj _ _ _ _ _ _ (83, [some (.ref 95), some (.int 1), some (.int 43), some (.int (nI k)), some (.int 45), some (.int 1)], [], (SS b true), Xa, J, 0, 0)
                refine r_run okX5_readSum 2 (cs := []) (σ' := (87, [some (.ref 95), some (.int 1), some (.int 43), some (.int (nI k)), some (.int 45), some (.int 1)], [.int 47, .int 45], (SS b true), Xa, J, 0, 0)) rfl trivial ?_
                refine r_icmp okX5_readSum rfl (fun (h87 : ¬ (45 : Int32) = (47 : Int32)) => ?_) (fun h870 => ?_)
                · refine r_run okX5_readSum 1 (cs := []) (σ' := (98, [some (.ref 95), some (.int 1), some (.int 43), some (.int (nI k)), some (.int 45), some (.int 1)], [.ref 95], (SS b true), Xa, J, 0, 0)) rfl trivial ?_
                  refine r_callV okX5_readSum okX5_readUnit [] [] 95 rfl rfl rfl kkX5_readUnit rfl rfl (by decide) rfl rfl rfl (by decide) ⟨Nat.le_refl _, Nat.le_refl _⟩ (Nat.le_of_ble_eq_true rfl) (b_unit79 γ hTa pXa hOa (by simp only [List.length_append, List.length_cons, List.length_nil] at *; omega)) (fun v1 S1 I1 J1 hp => ?_)
                  obtain ⟨rfl, rfl, hfr, hr⟩ := hp
                  obtain ⟨Xu, eXu⟩ : ∃ z, z = I1 := ⟨_, rfl⟩
                  subst eXu
                  cases hu : uR T n (i + 1) with
                  | inl e =>
                    rw [hu] at hr
                    obtain ⟨rfl, gF, gE⟩ := hr
                    have hfu : fr (qX 79) X0 Xu := fr_t hfa hfr
                    have hs : SmT T n 1 (some 2) i acc (.inl e) := by unfold SmT; rw [if_pos (Or.inr h)]; simp only [hu]
                    show Rj _ _ _ _ _ _ (101, [some (.ref 95), some (.int 1), some (.int 43), some (.int (nI k)), some (.int 45), some (.int 1)], [.int 0], (SS b true), Xu, J, 0, 0)
                    refine r_run okX5_readSum 2 (cs := []) (σ' := (104, [some (.ref 95), some (.int 0), some (.int 43), some (.int (nI k)), some (.int 45), some (.int 1)], [.int 1], (SS b true), Xu, J, 0, 0)) rfl trivial ?_
                    refine r_ifc okX5_readSum rfl (fun (h104 : (1 : Int32) = (0 : Int32)) => ?_) (fun (h104 : ¬ (1 : Int32) = (0 : Int32)) => ?_)
                    · exact absurd h104 (by decide)
                    · refine r_run okX5_readSum 7 (cs := []) (σ' := (14, [some (.ref 95), some (.int 0), some (.int 45), some (.int ((nI k) + 1)), some (.int 45), some (.int 1)], [.int 800, .int ((nI k) + 1)], (SS b true), Xu, J, 0, 0)) rfl trivial ?_
                      refine r_icmp okX5_readSum rfl (fun (h14_1 : (800 : Int32) ≤ ((nI k) + 1)) => ?_) (fun (h14_1 : ¬ (800 : Int32) ≤ ((nI k) + 1)) => ?_)
                      · refine r_run okX5_readSum 2 (cs := []) (σ' := (140, [some (.ref 95), some (.int 0), some (.int 45), some (.int ((nI k) + 1)), some (.int 45), some (.int 1)], [.int 18, .int 45], (SS b true), Xu, J, 0, 0)) rfl trivial ?_
                        refine r_icmp okX5_readSum rfl (fun (h140 : (45 : Int32) = (18 : Int32)) => ?_) (fun (h140 : ¬ (45 : Int32) = (18 : Int32)) => ?_)
                        · exact absurd h140 (by decide)
                        · refine r_run okX5_readSum 4 (cs := []) (σ' := (149, [some (.ref 95), some (.int 0), some (.int 45), some (.int ((nI k) + 1)), some (.int 45), some (.int 1)], [.int 0, .int 45, .ref 79], (SS b true), Xu, J, 0, 0)) rfl trivial ?_
                          refine r_callV okX5_readSum okX6_add [.int 45, .int 0] [] 79 rfl rfl rfl kkX6_add rfl rfl (by decide) rfl rfl rfl (by decide) ⟨Nat.le_refl _, Nat.le_refl _⟩ (Nat.le_of_ble_eq_true rfl) (a_addF79 γ gF 45 0) (fun v1 S1 I1 J1 hp => ?_)
                          obtain ⟨⟨zXf1, rfl⟩, rfl, ⟨fXf1, oXf1⟩, rfl⟩ := hp
                          obtain ⟨Xf1, eXf1⟩ : ∃ z, z = I1 := ⟨_, rfl⟩
                          subst eXf1
                          show Rj _ _ _ _ _ _ (152, [some (.ref 95), some (.int 0), some (.int 45), some (.int ((nI k) + 1)), some (.int 45), some (.int 1)], [.int zXf1], (SS b true), Xf1, J, 0, 0)
                          refine r_run okX5_readSum 2 (cs := []) (σ' := (154, [some (.ref 95), some (.int 0), some (.int 45), some (.int ((nI k) + 1)), some (.int 45), some (.int 1)], [.int 0], (SS b true), Xf1, J, 0, 0)) rfl trivial ?_
                          refine r_iret okX5_readSum rfl rfl (by decide +kernel) (Nat.le_refl _) (Nat.le_refl _) ?_
                          exact ⟨rfl, rfl, .inl e, hd _ ⟨1, hs⟩, (fr_t hfu (fA_X fXf1)), rfl, oXf1, (FlO_k (by decide) fXf1 gE)⟩
                      · refine r_run okX5_readSum 1 (cs := []) (σ' := (18, [some (.ref 95), some (.int 0), some (.int 45), some (.int ((nI k) + 1)), some (.int 45), some (.int 1)], [.int 0], (SS b true), Xu, J, 0, 0)) rfl trivial ?_
                        refine r_ifc okX5_readSum rfl (fun (h18_1 : (0 : Int32) = (0 : Int32)) => ?_) (fun (h18_1 : ¬ (0 : Int32) = (0 : Int32)) => ?_)
                        · refine r_run okX5_readSum 2 (cs := []) (σ' := (140, [some (.ref 95), some (.int 0), some (.int 45), some (.int ((nI k) + 1)), some (.int 45), some (.int 1)], [.int 18, .int 45], (SS b true), Xu, J, 0, 0)) rfl trivial ?_
                          refine r_icmp okX5_readSum rfl (fun (h140_1 : (45 : Int32) = (18 : Int32)) => ?_) (fun (h140_1 : ¬ (45 : Int32) = (18 : Int32)) => ?_)
                          · exact absurd h140_1 (by decide)
                          · refine r_run okX5_readSum 4 (cs := []) (σ' := (149, [some (.ref 95), some (.int 0), some (.int 45), some (.int ((nI k) + 1)), some (.int 45), some (.int 1)], [.int 0, .int 45, .ref 79], (SS b true), Xu, J, 0, 0)) rfl trivial ?_
                            refine r_callV okX5_readSum okX6_add [.int 45, .int 0] [] 79 rfl rfl rfl kkX6_add rfl rfl (by decide) rfl rfl rfl (by decide) ⟨Nat.le_refl _, Nat.le_refl _⟩ (Nat.le_of_ble_eq_true rfl) (a_addF79 γ gF 45 0) (fun v1 S1 I1 J1 hp => ?_)
                            obtain ⟨⟨zXf1, rfl⟩, rfl, ⟨fXf1, oXf1⟩, rfl⟩ := hp
                            obtain ⟨Xf1, eXf1⟩ : ∃ z, z = I1 := ⟨_, rfl⟩
                            subst eXf1
                            show Rj _ _ _ _ _ _ (152, [some (.ref 95), some (.int 0), some (.int 45), some (.int ((nI k) + 1)), some (.int 45), some (.int 1)], [.int zXf1], (SS b true), Xf1, J, 0, 0)
                            refine r_run okX5_readSum 2 (cs := []) (σ' := (154, [some (.ref 95), some (.int 0), some (.int 45), some (.int ((nI k) + 1)), some (.int 45), some (.int 1)], [.int 0], (SS b true), Xf1, J, 0, 0)) rfl trivial ?_
                            refine r_iret okX5_readSum rfl rfl (by decide +kernel) (Nat.le_refl _) (Nat.le_refl _) ?_
                            exact ⟨rfl, rfl, .inl e, hd _ ⟨1, hs⟩, (fr_t hfu (fA_X fXf1)), rfl, oXf1, (FlO_k (by decide) fXf1 gE)⟩
                        · exact absurd h18_1 (by decide)
                  | inr q =>
                    rw [hu] at hr
                    obtain ⟨rfl, gP, gO⟩ := hr
                    have hq1 := uR_l1 hu
                    have hq2 := gP.1
                    show Rj _ _ _ _ _ _ (101, [some (.ref 95), some (.int 1), some (.int 43), some (.int (nI k)), some (.int 45), some (.int 1)], [.int 1], (SS b true), Xu, J, 0, 0)
                    refine r_run okX5_readSum 2 (cs := []) (σ' := (104, [some (.ref 95), some (.int 1), some (.int 43), some (.int (nI k)), some (.int 45), some (.int 1)], [.int 1], (SS b true), Xu, J, 0, 0)) rfl trivial ?_
                    refine r_ifc okX5_readSum rfl (fun (h104_1 : (1 : Int32) = (0 : Int32)) => ?_) (fun (h104_1 : ¬ (1 : Int32) = (0 : Int32)) => ?_)
                    · exact absurd h104_1 (by decide)
                    · refine r_run okX5_readSum 5 (cs := []) (σ' := (10, [some (.ref 95), some (.int 1), some (.int 45), some (.int ((nI k) + 1)), some (.int 45), some (.int 1)], [], (SS b true), Xu, J, 0, 0)) rfl trivial ?_
                      rw [← nI_succ]
                      refine r_weak (L' := [some (.ref 95), some (.int 1), some (.int 45), some (.int (nI (k + 1))), none, none]) ⟨rfl, rfl, rfl, rfl, trivial⟩ ?_
                      refine K q _ hu (Tkn_k (A := 79) (by decide) hfr hTa) gP ?_ (fr_t hfa hfr)
                      rw [show l ++ (acc ++ wC (some 2) ++ q.1) = l ++ acc ++ wC (some 2) ++ q.1 by simp only [List.append_assoc]]
                      exact gO
                · have h87 : (45 : Int32) = (47 : Int32) := Classical.not_not.mp h870
                  exact absurd h87 (by decide)
theorem sm_42_1_79 (γ : GE) {b : Bool} {J : AJ} {T : Nat → Int32} {n N i0 : Nat} {l : Cd} {X0 : AI} {X : AI} {i k : Nat} {acc : Cd} (h : kK T n i = 42) (hT : Tkn T n N X) (hP : PsO T n N X i) (hO : OuO X 79 (l ++ acc)) (hl : (l ++ acc).length + (wC (some 2)).length ≤ i) (hk : k ≤ i) (hf : fr (qX 79) X0 X) (hd : ∀ res, (∃ f, SmT T n f (some 2) i acc res) → Sm T n i0 res) (K : ∀ (q : Cd × Nat) (Y : AI), uR T n (i + 1) = .inr q → Tkn T n N Y → PsO T n N Y q.2 → OuO Y 79 (l ++ (acc ++ q.1 ++ [(4, 0)])) → fr (qX 79) X0 Y → Rj γ mX5_readSum 2 0 0 (fun r S' I' J' => (SS b true) = S' ∧ J = J' ∧ ∃ res, Sm T n i0 res ∧ RsO T n N 79 X0 l res r I') (10, [some (.ref 95), some (.int 1), some (.int 43), some (.int (nI (k + 1))), none, none], [], (SS b true), Y, J, 0, 0)) : Rj γ mX5_readSum 2 0 0 (fun r S' I' J' => (SS b true) = S' ∧ J = J' ∧ ∃ res, Sm T n i0 res ∧ RsO T n N 79 X0 l res r I') (10, [some (.ref 95), some (.int 1), some (.int 43), some (.int (nI k)), none, none], [], (SS b true), X, J, 0, 0) := by
  have hlw : (wC (some 2)).length = 1 := rfl
  have hN := hT.1
  have hiN := hP.1
  have e7 : X 95 7 = 42 := hP.2.2.1.trans h
  have hi : i < N := kK_lt hT hiN (by rw [h]; decide)
  refine r_run okX5_readSum 2 (cs := []) (σ' := (14, [some (.ref 95), some (.int 1), some (.int 43), some (.int (nI k)), none, none], [.int 800, .int (nI k)], (SS b true), X, J, 0, 0)) rfl trivial ?_
  refine r_icmp okX5_readSum rfl (fun (h14 : (800 : Int32) ≤ (nI k)) => ?_) (fun (h14 : ¬ (800 : Int32) ≤ (nI k)) => ?_)
  · exact absurd h14 (nI_ge (b := 800) (by omega) (by decide))
  · refine r_run okX5_readSum 1 (cs := []) (σ' := (18, [some (.ref 95), some (.int 1), some (.int 43), some (.int (nI k)), none, none], [.int 1], (SS b true), X, J, 0, 0)) rfl trivial ?_
    refine r_ifc okX5_readSum rfl (fun (h18 : (1 : Int32) = (0 : Int32)) => ?_) (fun (h18 : ¬ (1 : Int32) = (0 : Int32)) => ?_)
    · exact absurd h18 (by decide)
    · refine r_run okX5_readSum 2 (cs := []) (σ' := (25, [some (.ref 95), some (.int 1), some (.int 43), some (.int (nI k)), none, none], [.int (X 95 7)], (SS b true), X, J, 0, 0)) rfl trivial ?_
      simp only [e7]
      show Rj _ _ _ _ _ _ (25, [some (.ref 95), some (.int 1), some (.int 43), some (.int (nI k)), none, none], [.int 42], (SS b true), X, J, 0, 0)
      refine r_callS okX5_readSum okX5_isReckoning [.int 42] [] rfl rfl rfl kkX5_isReckoning rfl rfl (by decide) (by decide) ⟨Nat.le_refl _, Nat.le_refl _⟩ (Nat.le_of_ble_eq_true rfl) (b_rk42 γ) (fun v1 S1 I1 J1 hp => ?_)
      obtain ⟨rfl, rfl, rfl, rfl⟩ := hp
      show Rj _ _ _ _ _ _ (28, [some (.ref 95), some (.int 1), some (.int 43), some (.int (nI k)), none, none], [.int 1], (SS b true), X, J, 0, 0)
      refine r_ifc okX5_readSum rfl (fun (h28 : (1 : Int32) = (0 : Int32)) => ?_) (fun (h28 : ¬ (1 : Int32) = (0 : Int32)) => ?_)
      · exact absurd h28 (by decide)
      · refine r_run okX5_readSum 5 (cs := []) (σ' := (41, [some (.ref 95), some (.int 1), some (.int 43), some (.int (nI k)), some (.int (X 95 7)), none], [.int 43, .int (X 95 7)], (SS b true), X, J, 0, 0)) rfl trivial ?_
        simp only [e7]
        show Rj _ _ _ _ _ _ (41, [some (.ref 95), some (.int 1), some (.int 43), some (.int (nI k)), some (.int 42), none], [.int 43, .int 42], (SS b true), X, J, 0, 0)
        refine r_icmp okX5_readSum rfl (fun (h41 : (42 : Int32) = (43 : Int32)) => ?_) (fun (h41 : ¬ (42 : Int32) = (43 : Int32)) => ?_)
        · exact absurd h41 (by decide)
        · refine r_run okX5_readSum 2 (cs := []) (σ' := (48, [some (.ref 95), some (.int 1), some (.int 43), some (.int (nI k)), some (.int 42), none], [.int 45, .int 42], (SS b true), X, J, 0, 0)) rfl trivial ?_
          refine r_icmp okX5_readSum rfl (fun (h48 : ¬ (42 : Int32) = (45 : Int32)) => ?_) (fun h480 => ?_)
          · refine r_run okX5_readSum 3 (cs := []) (σ' := (60, [some (.ref 95), some (.int 1), some (.int 43), some (.int (nI k)), some (.int 42), some (.int 0)], [.int 0], (SS b true), X, J, 0, 0)) rfl trivial ?_
            refine r_ifc okX5_readSum rfl (fun (h60 : (0 : Int32) = (0 : Int32)) => ?_) (fun (h60 : ¬ (0 : Int32) = (0 : Int32)) => ?_)
            · refine r_run okX5_readSum 1 (cs := []) (σ' := (80, [some (.ref 95), some (.int 1), some (.int 43), some (.int (nI k)), some (.int 42), some (.int 0)], [.ref 95], (SS b true), X, J, 0, 0)) rfl trivial ?_
              refine r_callV okX5_readSum okX5_advance [] [] 95 rfl rfl rfl kkX5_advance rfl rfl (by decide) rfl rfl rfl (by decide) ⟨Nat.le_refl _, Nat.le_refl _⟩ (Nat.le_of_ble_eq_true rfl) (b_adv79 γ hT hP hi) (fun v1 S1 I1 J1 hp => ?_)
              obtain ⟨rfl, rfl, ⟨fXa, pXa⟩, rfl⟩ := hp
              obtain ⟨Xa, eXa⟩ : ∃ z, z = I1 := ⟨_, rfl⟩
              subst eXa
              have hTa : Tkn T n N Xa := Tkn_k (A := 79) (by decide) (f9_X fXa) hT
              have hOa := OuO_9 (by decide) fXa hO
              have hfa : fr (qX 79) X0 Xa := fr_t hf (f9_X fXa)
              show Rj _ _ _ _ _ _ (83, [some (.ref 95), some (.int 1), some (.int 43), some (.int (nI k)), some (.int 42), some (.int 0)], [], (SS b true), Xa, J, 0, 0)
              refine r_run okX5_readSum 2 (cs := []) (σ' := (87, [some (.ref 95), some (.int 1), some (.int 43), some (.int (nI k)), some (.int 42), some (.int 0)], [.int 47, .int 42], (SS b true), Xa, J, 0, 0)) rfl trivial ?_
              refine r_icmp okX5_readSum rfl (fun (h87 : ¬ (42 : Int32) = (47 : Int32)) => ?_) (fun h870 => ?_)
              · refine r_run okX5_readSum 1 (cs := []) (σ' := (98, [some (.ref 95), some (.int 1), some (.int 43), some (.int (nI k)), some (.int 42), some (.int 0)], [.ref 95], (SS b true), Xa, J, 0, 0)) rfl trivial ?_
                refine r_callV okX5_readSum okX5_readUnit [] [] 95 rfl rfl rfl kkX5_readUnit rfl rfl (by decide) rfl rfl rfl (by decide) ⟨Nat.le_refl _, Nat.le_refl _⟩ (Nat.le_of_ble_eq_true rfl) (b_unit79 γ hTa pXa hOa (by simp only [List.length_append, List.length_cons, List.length_nil] at *; omega)) (fun v1 S1 I1 J1 hp => ?_)
                obtain ⟨rfl, rfl, hfr, hr⟩ := hp
                obtain ⟨Xu, eXu⟩ : ∃ z, z = I1 := ⟨_, rfl⟩
                subst eXu
                cases hu : uR T n (i + 1) with
                | inl e =>
                  rw [hu] at hr
                  obtain ⟨rfl, gF, gE⟩ := hr
                  have hfu : fr (qX 79) X0 Xu := fr_t hfa hfr
                  have hs : SmT T n 1 (some 2) i acc (.inl e) := by unfold SmT; rw [if_neg (by rw [h]; decide), if_pos h]; simp only [hu]
                  show Rj _ _ _ _ _ _ (101, [some (.ref 95), some (.int 1), some (.int 43), some (.int (nI k)), some (.int 42), some (.int 0)], [.int 0], (SS b true), Xu, J, 0, 0)
                  refine r_run okX5_readSum 2 (cs := []) (σ' := (104, [some (.ref 95), some (.int 0), some (.int 43), some (.int (nI k)), some (.int 42), some (.int 0)], [.int 0], (SS b true), Xu, J, 0, 0)) rfl trivial ?_
                  refine r_ifc okX5_readSum rfl (fun (h104 : (0 : Int32) = (0 : Int32)) => ?_) (fun (h104 : ¬ (0 : Int32) = (0 : Int32)) => ?_)
                  · refine r_run okX5_readSum 2 (cs := []) (σ' := (117, [some (.ref 95), some (.int 0), some (.int 43), some (.int (nI k)), some (.int 42), some (.int 0)], [.int 42, .int 42], (SS b true), Xu, J, 0, 0)) rfl trivial ?_
                    refine r_icmp okX5_readSum rfl (fun (h117 : ¬ (42 : Int32) = (42 : Int32)) => ?_) (fun h1170 => ?_)
                    · exact absurd h117 (by decide)
                    · have h117 : (42 : Int32) = (42 : Int32) := Classical.not_not.mp h1170
                      refine r_run okX5_readSum 4 (cs := []) (σ' := (127, [some (.ref 95), some (.int 0), some (.int 43), some (.int (nI k)), some (.int 42), some (.int 0)], [.int 0, .int 42, .ref 79], (SS b true), Xu, J, 0, 0)) rfl trivial ?_
                      refine r_callV okX5_readSum okX6_add [.int 42, .int 0] [] 79 rfl rfl rfl kkX6_add rfl rfl (by decide) rfl rfl rfl (by decide) ⟨Nat.le_refl _, Nat.le_refl _⟩ (Nat.le_of_ble_eq_true rfl) (a_addF79 γ gF 42 0) (fun v1 S1 I1 J1 hp => ?_)
                      obtain ⟨⟨zXf1, rfl⟩, rfl, ⟨fXf1, oXf1⟩, rfl⟩ := hp
                      obtain ⟨Xf1, eXf1⟩ : ∃ z, z = I1 := ⟨_, rfl⟩
                      subst eXf1
                      show Rj _ _ _ _ _ _ (130, [some (.ref 95), some (.int 0), some (.int 43), some (.int (nI k)), some (.int 42), some (.int 0)], [.int zXf1], (SS b true), Xf1, J, 0, 0)
                      refine r_run okX5_readSum 5 (cs := []) (σ' := (14, [some (.ref 95), some (.int 0), some (.int 43), some (.int ((nI k) + 1)), some (.int 42), some (.int 0)], [.int 800, .int ((nI k) + 1)], (SS b true), Xf1, J, 0, 0)) rfl trivial ?_
                      refine r_icmp okX5_readSum rfl (fun (h14_1 : (800 : Int32) ≤ ((nI k) + 1)) => ?_) (fun (h14_1 : ¬ (800 : Int32) ≤ ((nI k) + 1)) => ?_)
                      · refine r_run okX5_readSum 2 (cs := []) (σ' := (140, [some (.ref 95), some (.int 0), some (.int 43), some (.int ((nI k) + 1)), some (.int 42), some (.int 0)], [.int 18, .int 43], (SS b true), Xf1, J, 0, 0)) rfl trivial ?_
                        refine r_icmp okX5_readSum rfl (fun (h140 : (43 : Int32) = (18 : Int32)) => ?_) (fun (h140 : ¬ (43 : Int32) = (18 : Int32)) => ?_)
                        · exact absurd h140 (by decide)
                        · refine r_run okX5_readSum 4 (cs := []) (σ' := (149, [some (.ref 95), some (.int 0), some (.int 43), some (.int ((nI k) + 1)), some (.int 42), some (.int 0)], [.int 0, .int 43, .ref 79], (SS b true), Xf1, J, 0, 0)) rfl trivial ?_
                          refine r_callV okX5_readSum okX6_add [.int 43, .int 0] [] 79 rfl rfl rfl kkX6_add rfl rfl (by decide) rfl rfl rfl (by decide) ⟨Nat.le_refl _, Nat.le_refl _⟩ (Nat.le_of_ble_eq_true rfl) (a_addF79 γ oXf1 43 0) (fun v1 S1 I1 J1 hp => ?_)
                          obtain ⟨⟨zXf2, rfl⟩, rfl, ⟨fXf2, oXf2⟩, rfl⟩ := hp
                          obtain ⟨Xf2, eXf2⟩ : ∃ z, z = I1 := ⟨_, rfl⟩
                          subst eXf2
                          show Rj _ _ _ _ _ _ (152, [some (.ref 95), some (.int 0), some (.int 43), some (.int ((nI k) + 1)), some (.int 42), some (.int 0)], [.int zXf2], (SS b true), Xf2, J, 0, 0)
                          refine r_run okX5_readSum 2 (cs := []) (σ' := (154, [some (.ref 95), some (.int 0), some (.int 43), some (.int ((nI k) + 1)), some (.int 42), some (.int 0)], [.int 0], (SS b true), Xf2, J, 0, 0)) rfl trivial ?_
                          refine r_iret okX5_readSum rfl rfl (by decide +kernel) (Nat.le_refl _) (Nat.le_refl _) ?_
                          exact ⟨rfl, rfl, .inl e, hd _ ⟨1, hs⟩, (fr_t (fr_t hfu (fA_X fXf1)) (fA_X fXf2)), rfl, oXf2, (FlO_k (by decide) fXf2 (FlO_k (by decide) fXf1 gE))⟩
                      · refine r_run okX5_readSum 1 (cs := []) (σ' := (18, [some (.ref 95), some (.int 0), some (.int 43), some (.int ((nI k) + 1)), some (.int 42), some (.int 0)], [.int 0], (SS b true), Xf1, J, 0, 0)) rfl trivial ?_
                        refine r_ifc okX5_readSum rfl (fun (h18_1 : (0 : Int32) = (0 : Int32)) => ?_) (fun (h18_1 : ¬ (0 : Int32) = (0 : Int32)) => ?_)
                        · refine r_run okX5_readSum 2 (cs := []) (σ' := (140, [some (.ref 95), some (.int 0), some (.int 43), some (.int ((nI k) + 1)), some (.int 42), some (.int 0)], [.int 18, .int 43], (SS b true), Xf1, J, 0, 0)) rfl trivial ?_
                          refine r_icmp okX5_readSum rfl (fun (h140_1 : (43 : Int32) = (18 : Int32)) => ?_) (fun (h140_1 : ¬ (43 : Int32) = (18 : Int32)) => ?_)
                          · exact absurd h140_1 (by decide)
                          · refine r_run okX5_readSum 4 (cs := []) (σ' := (149, [some (.ref 95), some (.int 0), some (.int 43), some (.int ((nI k) + 1)), some (.int 42), some (.int 0)], [.int 0, .int 43, .ref 79], (SS b true), Xf1, J, 0, 0)) rfl trivial ?_
                            refine r_callV okX5_readSum okX6_add [.int 43, .int 0] [] 79 rfl rfl rfl kkX6_add rfl rfl (by decide) rfl rfl rfl (by decide) ⟨Nat.le_refl _, Nat.le_refl _⟩ (Nat.le_of_ble_eq_true rfl) (a_addF79 γ oXf1 43 0) (fun v1 S1 I1 J1 hp => ?_)
                            obtain ⟨⟨zXf2, rfl⟩, rfl, ⟨fXf2, oXf2⟩, rfl⟩ := hp
                            obtain ⟨Xf2, eXf2⟩ : ∃ z, z = I1 := ⟨_, rfl⟩
                            subst eXf2
                            show Rj _ _ _ _ _ _ (152, [some (.ref 95), some (.int 0), some (.int 43), some (.int ((nI k) + 1)), some (.int 42), some (.int 0)], [.int zXf2], (SS b true), Xf2, J, 0, 0)
                            refine r_run okX5_readSum 2 (cs := []) (σ' := (154, [some (.ref 95), some (.int 0), some (.int 43), some (.int ((nI k) + 1)), some (.int 42), some (.int 0)], [.int 0], (SS b true), Xf2, J, 0, 0)) rfl trivial ?_
                            refine r_iret okX5_readSum rfl rfl (by decide +kernel) (Nat.le_refl _) (Nat.le_refl _) ?_
                            exact ⟨rfl, rfl, .inl e, hd _ ⟨1, hs⟩, (fr_t (fr_t hfu (fA_X fXf1)) (fA_X fXf2)), rfl, oXf2, (FlO_k (by decide) fXf2 (FlO_k (by decide) fXf1 gE))⟩
                        · exact absurd h18_1 (by decide)
                  · exact absurd h104 (by decide)
                | inr q =>
                  rw [hu] at hr
                  obtain ⟨rfl, gP, gO⟩ := hr
                  have hq1 := uR_l1 hu
                  have hq2 := gP.1
                  show Rj _ _ _ _ _ _ (101, [some (.ref 95), some (.int 1), some (.int 43), some (.int (nI k)), some (.int 42), some (.int 0)], [.int 1], (SS b true), Xu, J, 0, 0)
                  refine r_run okX5_readSum 2 (cs := []) (σ' := (104, [some (.ref 95), some (.int 1), some (.int 43), some (.int (nI k)), some (.int 42), some (.int 0)], [.int 0], (SS b true), Xu, J, 0, 0)) rfl trivial ?_
                  refine r_ifc okX5_readSum rfl (fun (h104_1 : (0 : Int32) = (0 : Int32)) => ?_) (fun (h104_1 : ¬ (0 : Int32) = (0 : Int32)) => ?_)
                  · refine r_run okX5_readSum 2 (cs := []) (σ' := (117, [some (.ref 95), some (.int 1), some (.int 43), some (.int (nI k)), some (.int 42), some (.int 0)], [.int 42, .int 42], (SS b true), Xu, J, 0, 0)) rfl trivial ?_
                    refine r_icmp okX5_readSum rfl (fun (h117_1 : ¬ (42 : Int32) = (42 : Int32)) => ?_) (fun h117_10 => ?_)
                    · exact absurd h117_1 (by decide)
                    · have h117_1 : (42 : Int32) = (42 : Int32) := Classical.not_not.mp h117_10
                      refine r_run okX5_readSum 4 (cs := []) (σ' := (127, [some (.ref 95), some (.int 1), some (.int 43), some (.int (nI k)), some (.int 42), some (.int 0)], [.int 0, .int 42, .ref 79], (SS b true), Xu, J, 0, 0)) rfl trivial ?_
                      refine r_callV okX5_readSum okX6_add [.int 42, .int 0] [] 79 rfl rfl rfl kkX6_add rfl rfl (by decide) rfl rfl rfl (by decide) ⟨Nat.le_refl _, Nat.le_refl _⟩ (Nat.le_of_ble_eq_true rfl) (a_add79 γ gO (by simp only [List.length_append, List.length_cons, List.length_nil] at *; omega) (p := (4, 0)) rfl) (fun v1 S1 I1 J1 hp => ?_)
                      obtain ⟨rfl, rfl, ⟨fXg, oXg⟩, rfl⟩ := hp
                      obtain ⟨Xg, eXg⟩ : ∃ z, z = I1 := ⟨_, rfl⟩
                      subst eXg
                      show Rj _ _ _ _ _ _ (130, [some (.ref 95), some (.int 1), some (.int 43), some (.int (nI k)), some (.int 42), some (.int 0)], [.int 1], (SS b true), Xg, J, 0, 0)
                      refine r_run okX5_readSum 3 (cs := []) (σ' := (10, [some (.ref 95), some (.int 1), some (.int 43), some (.int ((nI k) + 1)), some (.int 42), some (.int 0)], [], (SS b true), Xg, J, 0, 0)) rfl trivial ?_
                      rw [← nI_succ]
                      refine r_weak (L' := [some (.ref 95), some (.int 1), some (.int 43), some (.int (nI (k + 1))), none, none]) ⟨rfl, rfl, rfl, rfl, trivial⟩ ?_
                      refine K q _ hu (Tkn_k (A := 79) (by decide) (fA_X fXg) (Tkn_k (A := 79) (by decide) hfr hTa)) (PsO_k (by decide) fXg gP) ?_ (fr_t (fr_t hfa hfr) (fA_X fXg))
                      rw [show l ++ (acc ++ q.1 ++ [(4, 0)]) = l ++ acc ++ q.1 ++ [(4, 0)] by simp only [List.append_assoc]]
                      exact oXg
                  · exact absurd h104_1 (by decide)
              · have h87 : (42 : Int32) = (47 : Int32) := Classical.not_not.mp h870
                exact absurd h87 (by decide)
            · exact absurd h60 (by decide)
          · have h48 : (42 : Int32) = (45 : Int32) := Classical.not_not.mp h480
            exact absurd h48 (by decide)
theorem sm_47_1_79 (γ : GE) {b : Bool} {J : AJ} {T : Nat → Int32} {n N i0 : Nat} {l : Cd} {X0 : AI} {X : AI} {i k : Nat} {acc : Cd} (h : kK T n i = 47) (hT : Tkn T n N X) (hP : PsO T n N X i) (hO : OuO X 79 (l ++ acc)) (hl : (l ++ acc).length + (wC (some 2)).length ≤ i) (hk : k ≤ i) (hf : fr (qX 79) X0 X) (hd : ∀ res, (∃ f, SmT T n f (some 2) i acc res) → Sm T n i0 res) (K : ∀ (q : Cd × Nat) (Y : AI), dR T n (i + 1) = .inr q → Tkn T n N Y → PsO T n N Y q.2 → OuO Y 79 (l ++ (acc ++ q.1)) → fr (qX 79) X0 Y → Rj γ mX5_readSum 2 0 0 (fun r S' I' J' => (SS b true) = S' ∧ J = J' ∧ ∃ res, Sm T n i0 res ∧ RsO T n N 79 X0 l res r I') (10, [some (.ref 95), some (.int 1), some (.int 43), some (.int (nI (k + 1))), none, none], [], (SS b true), Y, J, 0, 0)) : Rj γ mX5_readSum 2 0 0 (fun r S' I' J' => (SS b true) = S' ∧ J = J' ∧ ∃ res, Sm T n i0 res ∧ RsO T n N 79 X0 l res r I') (10, [some (.ref 95), some (.int 1), some (.int 43), some (.int (nI k)), none, none], [], (SS b true), X, J, 0, 0) := by
  have hlw : (wC (some 2)).length = 1 := rfl
  have hN := hT.1
  have hiN := hP.1
  have e7 : X 95 7 = 47 := hP.2.2.1.trans h
  have hi : i < N := kK_lt hT hiN (by rw [h]; decide)
  refine r_run okX5_readSum 2 (cs := []) (σ' := (14, [some (.ref 95), some (.int 1), some (.int 43), some (.int (nI k)), none, none], [.int 800, .int (nI k)], (SS b true), X, J, 0, 0)) rfl trivial ?_
  refine r_icmp okX5_readSum rfl (fun (h14 : (800 : Int32) ≤ (nI k)) => ?_) (fun (h14 : ¬ (800 : Int32) ≤ (nI k)) => ?_)
  · exact absurd h14 (nI_ge (b := 800) (by omega) (by decide))
  · refine r_run okX5_readSum 1 (cs := []) (σ' := (18, [some (.ref 95), some (.int 1), some (.int 43), some (.int (nI k)), none, none], [.int 1], (SS b true), X, J, 0, 0)) rfl trivial ?_
    refine r_ifc okX5_readSum rfl (fun (h18 : (1 : Int32) = (0 : Int32)) => ?_) (fun (h18 : ¬ (1 : Int32) = (0 : Int32)) => ?_)
    · exact absurd h18 (by decide)
    · refine r_run okX5_readSum 2 (cs := []) (σ' := (25, [some (.ref 95), some (.int 1), some (.int 43), some (.int (nI k)), none, none], [.int (X 95 7)], (SS b true), X, J, 0, 0)) rfl trivial ?_
      simp only [e7]
      show Rj _ _ _ _ _ _ (25, [some (.ref 95), some (.int 1), some (.int 43), some (.int (nI k)), none, none], [.int 47], (SS b true), X, J, 0, 0)
      refine r_callS okX5_readSum okX5_isReckoning [.int 47] [] rfl rfl rfl kkX5_isReckoning rfl rfl (by decide) (by decide) ⟨Nat.le_refl _, Nat.le_refl _⟩ (Nat.le_of_ble_eq_true rfl) (b_rk47 γ) (fun v1 S1 I1 J1 hp => ?_)
      obtain ⟨rfl, rfl, rfl, rfl⟩ := hp
      show Rj _ _ _ _ _ _ (28, [some (.ref 95), some (.int 1), some (.int 43), some (.int (nI k)), none, none], [.int 1], (SS b true), X, J, 0, 0)
      refine r_ifc okX5_readSum rfl (fun (h28 : (1 : Int32) = (0 : Int32)) => ?_) (fun (h28 : ¬ (1 : Int32) = (0 : Int32)) => ?_)
      · exact absurd h28 (by decide)
      · refine r_run okX5_readSum 5 (cs := []) (σ' := (41, [some (.ref 95), some (.int 1), some (.int 43), some (.int (nI k)), some (.int (X 95 7)), none], [.int 43, .int (X 95 7)], (SS b true), X, J, 0, 0)) rfl trivial ?_
        simp only [e7]
        show Rj _ _ _ _ _ _ (41, [some (.ref 95), some (.int 1), some (.int 43), some (.int (nI k)), some (.int 47), none], [.int 43, .int 47], (SS b true), X, J, 0, 0)
        refine r_icmp okX5_readSum rfl (fun (h41 : (47 : Int32) = (43 : Int32)) => ?_) (fun (h41 : ¬ (47 : Int32) = (43 : Int32)) => ?_)
        · exact absurd h41 (by decide)
        · refine r_run okX5_readSum 2 (cs := []) (σ' := (48, [some (.ref 95), some (.int 1), some (.int 43), some (.int (nI k)), some (.int 47), none], [.int 45, .int 47], (SS b true), X, J, 0, 0)) rfl trivial ?_
          refine r_icmp okX5_readSum rfl (fun (h48 : ¬ (47 : Int32) = (45 : Int32)) => ?_) (fun h480 => ?_)
          · refine r_run okX5_readSum 3 (cs := []) (σ' := (60, [some (.ref 95), some (.int 1), some (.int 43), some (.int (nI k)), some (.int 47), some (.int 0)], [.int 0], (SS b true), X, J, 0, 0)) rfl trivial ?_
            refine r_ifc okX5_readSum rfl (fun (h60 : (0 : Int32) = (0 : Int32)) => ?_) (fun (h60 : ¬ (0 : Int32) = (0 : Int32)) => ?_)
            · refine r_run okX5_readSum 1 (cs := []) (σ' := (80, [some (.ref 95), some (.int 1), some (.int 43), some (.int (nI k)), some (.int 47), some (.int 0)], [.ref 95], (SS b true), X, J, 0, 0)) rfl trivial ?_
              refine r_callV okX5_readSum okX5_advance [] [] 95 rfl rfl rfl kkX5_advance rfl rfl (by decide) rfl rfl rfl (by decide) ⟨Nat.le_refl _, Nat.le_refl _⟩ (Nat.le_of_ble_eq_true rfl) (b_adv79 γ hT hP hi) (fun v1 S1 I1 J1 hp => ?_)
              obtain ⟨rfl, rfl, ⟨fXa, pXa⟩, rfl⟩ := hp
              obtain ⟨Xa, eXa⟩ : ∃ z, z = I1 := ⟨_, rfl⟩
              subst eXa
              have hTa : Tkn T n N Xa := Tkn_k (A := 79) (by decide) (f9_X fXa) hT
              have hOa := OuO_9 (by decide) fXa hO
              have hfa : fr (qX 79) X0 Xa := fr_t hf (f9_X fXa)
              show Rj _ _ _ _ _ _ (83, [some (.ref 95), some (.int 1), some (.int 43), some (.int (nI k)), some (.int 47), some (.int 0)], [], (SS b true), Xa, J, 0, 0)
              refine r_run okX5_readSum 2 (cs := []) (σ' := (87, [some (.ref 95), some (.int 1), some (.int 43), some (.int (nI k)), some (.int 47), some (.int 0)], [.int 47, .int 47], (SS b true), Xa, J, 0, 0)) rfl trivial ?_
              refine r_icmp okX5_readSum rfl (fun (h87 : ¬ (47 : Int32) = (47 : Int32)) => ?_) (fun h870 => ?_)
              · exact absurd h87 (by decide)
              · have h87 : (47 : Int32) = (47 : Int32) := Classical.not_not.mp h870
                refine r_run okX5_readSum 1 (cs := []) (σ' := (91, [some (.ref 95), some (.int 1), some (.int 43), some (.int (nI k)), some (.int 47), some (.int 0)], [.ref 95], (SS b true), Xa, J, 0, 0)) rfl trivial ?_
                refine r_callV okX5_readSum okX5_readDivisor [] [] 95 rfl rfl rfl kkX5_readDivisor rfl rfl (by decide) rfl rfl rfl (by decide) ⟨Nat.le_refl _, Nat.le_refl _⟩ (Nat.le_of_ble_eq_true rfl) (b_div79 γ hTa pXa hOa (by simp only [List.length_append, List.length_cons, List.length_nil] at *; omega)) (fun v1 S1 I1 J1 hp => ?_)
                obtain ⟨rfl, rfl, hfr, hr⟩ := hp
                obtain ⟨Xu, eXu⟩ : ∃ z, z = I1 := ⟨_, rfl⟩
                subst eXu
                cases hu : dR T n (i + 1) with
                | inl e =>
                  rw [hu] at hr
                  obtain ⟨rfl, gF, gE⟩ := hr
                  have hfu : fr (qX 79) X0 Xu := fr_t hfa hfr
                  have hs : SmT T n 1 (some 2) i acc (.inl e) := by
                    unfold SmT; rw [if_neg (by rw [h]; decide), if_neg (by rw [h]; decide), if_pos h]; unfold dR at hu
                    split at hu
                    · rename_i z1; rw [if_pos z1]; split at hu
                      · rename_i z2; rw [if_pos z2]; cases hu; rfl
                      · cases hu
                    · rename_i z1; rw [if_neg z1]; cases hu; rfl
                  show Rj _ _ _ _ _ _ (94, [some (.ref 95), some (.int 1), some (.int 43), some (.int (nI k)), some (.int 47), some (.int 0)], [.int 0], (SS b true), Xu, J, 0, 0)
                  refine r_run okX5_readSum 3 (cs := []) (σ' := (104, [some (.ref 95), some (.int 0), some (.int 43), some (.int (nI k)), some (.int 47), some (.int 0)], [.int 0], (SS b true), Xu, J, 0, 0)) rfl trivial ?_
                  refine r_ifc okX5_readSum rfl (fun (h104 : (0 : Int32) = (0 : Int32)) => ?_) (fun (h104 : ¬ (0 : Int32) = (0 : Int32)) => ?_)
                  · refine r_run okX5_readSum 2 (cs := []) (σ' := (117, [some (.ref 95), some (.int 0), some (.int 43), some (.int (nI k)), some (.int 47), some (.int 0)], [.int 42, .int 47], (SS b true), Xu, J, 0, 0)) rfl trivial ?_
                    refine r_icmp okX5_readSum rfl (fun (h117 : ¬ (47 : Int32) = (42 : Int32)) => ?_) (fun h1170 => ?_)
                    · refine r_run okX5_readSum 4 (cs := []) (σ' := (14, [some (.ref 95), some (.int 0), some (.int 43), some (.int ((nI k) + 1)), some (.int 47), some (.int 0)], [.int 800, .int ((nI k) + 1)], (SS b true), Xu, J, 0, 0)) rfl trivial ?_
                      refine r_icmp okX5_readSum rfl (fun (h14_1 : (800 : Int32) ≤ ((nI k) + 1)) => ?_) (fun (h14_1 : ¬ (800 : Int32) ≤ ((nI k) + 1)) => ?_)
                      · refine r_run okX5_readSum 2 (cs := []) (σ' := (140, [some (.ref 95), some (.int 0), some (.int 43), some (.int ((nI k) + 1)), some (.int 47), some (.int 0)], [.int 18, .int 43], (SS b true), Xu, J, 0, 0)) rfl trivial ?_
                        refine r_icmp okX5_readSum rfl (fun (h140 : (43 : Int32) = (18 : Int32)) => ?_) (fun (h140 : ¬ (43 : Int32) = (18 : Int32)) => ?_)
                        · exact absurd h140 (by decide)
                        · refine r_run okX5_readSum 4 (cs := []) (σ' := (149, [some (.ref 95), some (.int 0), some (.int 43), some (.int ((nI k) + 1)), some (.int 47), some (.int 0)], [.int 0, .int 43, .ref 79], (SS b true), Xu, J, 0, 0)) rfl trivial ?_
                          refine r_callV okX5_readSum okX6_add [.int 43, .int 0] [] 79 rfl rfl rfl kkX6_add rfl rfl (by decide) rfl rfl rfl (by decide) ⟨Nat.le_refl _, Nat.le_refl _⟩ (Nat.le_of_ble_eq_true rfl) (a_addF79 γ gF 43 0) (fun v1 S1 I1 J1 hp => ?_)
                          obtain ⟨⟨zXf1, rfl⟩, rfl, ⟨fXf1, oXf1⟩, rfl⟩ := hp
                          obtain ⟨Xf1, eXf1⟩ : ∃ z, z = I1 := ⟨_, rfl⟩
                          subst eXf1
                          show Rj _ _ _ _ _ _ (152, [some (.ref 95), some (.int 0), some (.int 43), some (.int ((nI k) + 1)), some (.int 47), some (.int 0)], [.int zXf1], (SS b true), Xf1, J, 0, 0)
                          refine r_run okX5_readSum 2 (cs := []) (σ' := (154, [some (.ref 95), some (.int 0), some (.int 43), some (.int ((nI k) + 1)), some (.int 47), some (.int 0)], [.int 0], (SS b true), Xf1, J, 0, 0)) rfl trivial ?_
                          refine r_iret okX5_readSum rfl rfl (by decide +kernel) (Nat.le_refl _) (Nat.le_refl _) ?_
                          exact ⟨rfl, rfl, .inl e, hd _ ⟨1, hs⟩, (fr_t hfu (fA_X fXf1)), rfl, oXf1, (FlO_k (by decide) fXf1 gE)⟩
                      · refine r_run okX5_readSum 1 (cs := []) (σ' := (18, [some (.ref 95), some (.int 0), some (.int 43), some (.int ((nI k) + 1)), some (.int 47), some (.int 0)], [.int 0], (SS b true), Xu, J, 0, 0)) rfl trivial ?_
                        refine r_ifc okX5_readSum rfl (fun (h18_1 : (0 : Int32) = (0 : Int32)) => ?_) (fun (h18_1 : ¬ (0 : Int32) = (0 : Int32)) => ?_)
                        · refine r_run okX5_readSum 2 (cs := []) (σ' := (140, [some (.ref 95), some (.int 0), some (.int 43), some (.int ((nI k) + 1)), some (.int 47), some (.int 0)], [.int 18, .int 43], (SS b true), Xu, J, 0, 0)) rfl trivial ?_
                          refine r_icmp okX5_readSum rfl (fun (h140_1 : (43 : Int32) = (18 : Int32)) => ?_) (fun (h140_1 : ¬ (43 : Int32) = (18 : Int32)) => ?_)
                          · exact absurd h140_1 (by decide)
                          · refine r_run okX5_readSum 4 (cs := []) (σ' := (149, [some (.ref 95), some (.int 0), some (.int 43), some (.int ((nI k) + 1)), some (.int 47), some (.int 0)], [.int 0, .int 43, .ref 79], (SS b true), Xu, J, 0, 0)) rfl trivial ?_
                            refine r_callV okX5_readSum okX6_add [.int 43, .int 0] [] 79 rfl rfl rfl kkX6_add rfl rfl (by decide) rfl rfl rfl (by decide) ⟨Nat.le_refl _, Nat.le_refl _⟩ (Nat.le_of_ble_eq_true rfl) (a_addF79 γ gF 43 0) (fun v1 S1 I1 J1 hp => ?_)
                            obtain ⟨⟨zXf1, rfl⟩, rfl, ⟨fXf1, oXf1⟩, rfl⟩ := hp
                            obtain ⟨Xf1, eXf1⟩ : ∃ z, z = I1 := ⟨_, rfl⟩
                            subst eXf1
                            show Rj _ _ _ _ _ _ (152, [some (.ref 95), some (.int 0), some (.int 43), some (.int ((nI k) + 1)), some (.int 47), some (.int 0)], [.int zXf1], (SS b true), Xf1, J, 0, 0)
                            refine r_run okX5_readSum 2 (cs := []) (σ' := (154, [some (.ref 95), some (.int 0), some (.int 43), some (.int ((nI k) + 1)), some (.int 47), some (.int 0)], [.int 0], (SS b true), Xf1, J, 0, 0)) rfl trivial ?_
                            refine r_iret okX5_readSum rfl rfl (by decide +kernel) (Nat.le_refl _) (Nat.le_refl _) ?_
                            exact ⟨rfl, rfl, .inl e, hd _ ⟨1, hs⟩, (fr_t hfu (fA_X fXf1)), rfl, oXf1, (FlO_k (by decide) fXf1 gE)⟩
                        · exact absurd h18_1 (by decide)
                    · have h117 : (47 : Int32) = (42 : Int32) := Classical.not_not.mp h1170
                      exact absurd h117 (by decide)
                  · exact absurd h104 (by decide)
                | inr q =>
                  rw [hu] at hr
                  obtain ⟨rfl, gP, gO⟩ := hr
                  have hq1 := dR_l1 hu
                  have hq2 := gP.1
                  show Rj _ _ _ _ _ _ (94, [some (.ref 95), some (.int 1), some (.int 43), some (.int (nI k)), some (.int 47), some (.int 0)], [.int 1], (SS b true), Xu, J, 0, 0)
                  refine r_run okX5_readSum 3 (cs := []) (σ' := (104, [some (.ref 95), some (.int 1), some (.int 43), some (.int (nI k)), some (.int 47), some (.int 0)], [.int 0], (SS b true), Xu, J, 0, 0)) rfl trivial ?_
                  refine r_ifc okX5_readSum rfl (fun (h104_1 : (0 : Int32) = (0 : Int32)) => ?_) (fun (h104_1 : ¬ (0 : Int32) = (0 : Int32)) => ?_)
                  · refine r_run okX5_readSum 2 (cs := []) (σ' := (117, [some (.ref 95), some (.int 1), some (.int 43), some (.int (nI k)), some (.int 47), some (.int 0)], [.int 42, .int 47], (SS b true), Xu, J, 0, 0)) rfl trivial ?_
                    refine r_icmp okX5_readSum rfl (fun (h117_1 : ¬ (47 : Int32) = (42 : Int32)) => ?_) (fun h117_10 => ?_)
                    · refine r_run okX5_readSum 2 (cs := []) (σ' := (10, [some (.ref 95), some (.int 1), some (.int 43), some (.int ((nI k) + 1)), some (.int 47), some (.int 0)], [], (SS b true), Xu, J, 0, 0)) rfl trivial ?_
                      rw [← nI_succ]
                      refine r_weak (L' := [some (.ref 95), some (.int 1), some (.int 43), some (.int (nI (k + 1))), none, none]) ⟨rfl, rfl, rfl, rfl, trivial⟩ ?_
                      refine K q _ hu (Tkn_k (A := 79) (by decide) hfr hTa) gP ?_ (fr_t hfa hfr)
                      rw [show l ++ (acc ++ q.1) = l ++ acc ++ q.1 by simp only [List.append_assoc]]
                      exact gO
                    · have h117_1 : (47 : Int32) = (42 : Int32) := Classical.not_not.mp h117_10
                      exact absurd h117_1 (by decide)
                  · exact absurd h104_1 (by decide)
            · exact absurd h60 (by decide)
          · have h48 : (47 : Int32) = (45 : Int32) := Classical.not_not.mp h480
            exact absurd h48 (by decide)
theorem sm_end2_79 (γ : GE) {b : Bool} {J : AJ} {T : Nat → Int32} {n N i0 : Nat} {l : Cd} {X0 : AI} {X : AI} {i k : Nat} {acc : Cd} (h1 : ¬ kK T n i = 43) (h2 : ¬ kK T n i = 45) (h3 : ¬ kK T n i = 42) (h4 : ¬ kK T n i = 47) (hT : Tkn T n N X) (hP : PsO T n N X i) (hO : OuO X 79 (l ++ acc)) (hl : (l ++ acc).length + (wC (some 3)).length ≤ i) (hk : k ≤ i) (hf : fr (qX 79) X0 X) (hd : ∀ res, (∃ f, SmT T n f (some 3) i acc res) → Sm T n i0 res) : Rj γ mX5_readSum 2 0 0 (fun r S' I' J' => (SS b true) = S' ∧ J = J' ∧ ∃ res, Sm T n i0 res ∧ RsO T n N 79 X0 l res r I') (10, [some (.ref 95), some (.int 1), some (.int 45), some (.int (nI k)), none, none], [], (SS b true), X, J, 0, 0) := by
  have hlw : (wC (some 3)).length = 1 := rfl
  have hN := hT.1
  have hiN := hP.1
  have e7 := hP.2.2.1
  have k800 : k ≤ 800 := by omega
  refine r_run okX5_readSum 2 (cs := []) (σ' := (14, [some (.ref 95), some (.int 1), some (.int 45), some (.int (nI k)), none, none], [.int 800, .int (nI k)], (SS b true), X, J, 0, 0)) rfl trivial ?_
  refine r_icmp okX5_readSum rfl (fun (h14 : (800 : Int32) ≤ (nI k)) => ?_) (fun (h14 : ¬ (800 : Int32) ≤ (nI k)) => ?_)
  · refine r_run okX5_readSum 2 (cs := []) (σ' := (140, [some (.ref 95), some (.int 1), some (.int 45), some (.int (nI k)), none, none], [.int 18, .int 45], (SS b true), X, J, 0, 0)) rfl trivial ?_
    refine r_icmp okX5_readSum rfl (fun (h140 : (45 : Int32) = (18 : Int32)) => ?_) (fun (h140 : ¬ (45 : Int32) = (18 : Int32)) => ?_)
    · exact absurd h140 (by decide)
    · refine r_run okX5_readSum 4 (cs := []) (σ' := (149, [some (.ref 95), some (.int 1), some (.int 45), some (.int (nI k)), none, none], [.int 0, .int 45, .ref 79], (SS b true), X, J, 0, 0)) rfl trivial ?_
      refine r_callV okX5_readSum okX6_add [.int 45, .int 0] [] 79 rfl rfl rfl kkX6_add rfl rfl (by decide) rfl rfl rfl (by decide) ⟨Nat.le_refl _, Nat.le_refl _⟩ (Nat.le_of_ble_eq_true rfl) (a_add79 γ hO (by simp only [List.length_append, List.length_cons, List.length_nil] at *; omega) (p := (3, 0)) rfl) (fun v1 S1 I1 J1 hp => ?_)
      obtain ⟨rfl, rfl, ⟨fXe, oXe⟩, rfl⟩ := hp
      obtain ⟨Xe, eXe⟩ : ∃ z, z = I1 := ⟨_, rfl⟩
      subst eXe
      show Rj _ _ _ _ _ _ (152, [some (.ref 95), some (.int 1), some (.int 45), some (.int (nI k)), none, none], [.int 1], (SS b true), Xe, J, 0, 0)
      refine r_run okX5_readSum 2 (cs := []) (σ' := (154, [some (.ref 95), some (.int 1), some (.int 45), some (.int (nI k)), none, none], [.int 1], (SS b true), Xe, J, 0, 0)) rfl trivial ?_
      refine r_iret okX5_readSum rfl rfl (by decide +kernel) (Nat.le_refl _) (Nat.le_refl _) ?_
      have hs : SmT T n 1 (some 3) i acc (.inr (acc ++ wC (some 3), i)) := by
        unfold SmT; rw [if_neg (fun z => z.elim h1 h2), if_neg h3, if_neg h4]
      exact ⟨rfl, rfl, _, hd _ ⟨1, hs⟩, fr_t hf (fA_X fXe), rfl, PsO_k (by decide) fXe hP, by show OuO Xe 79 (l ++ (acc ++ [(3, 0)])); rw [← List.append_assoc]; exact oXe⟩
  · refine r_run okX5_readSum 1 (cs := []) (σ' := (18, [some (.ref 95), some (.int 1), some (.int 45), some (.int (nI k)), none, none], [.int 1], (SS b true), X, J, 0, 0)) rfl trivial ?_
    refine r_ifc okX5_readSum rfl (fun (h18 : (1 : Int32) = (0 : Int32)) => ?_) (fun (h18 : ¬ (1 : Int32) = (0 : Int32)) => ?_)
    · exact absurd h18 (by decide)
    · refine r_run okX5_readSum 2 (cs := []) (σ' := (25, [some (.ref 95), some (.int 1), some (.int 45), some (.int (nI k)), none, none], [.int (X 95 7)], (SS b true), X, J, 0, 0)) rfl trivial ?_
      simp only [e7]
      show Rj _ _ _ _ _ _ (25, [some (.ref 95), some (.int 1), some (.int 45), some (.int (nI k)), none, none], [.int (kK T n i)], (SS b true), X, J, 0, 0)
      refine r_callS okX5_readSum okX5_isReckoning [.int (kK T n i)] [] rfl rfl rfl kkX5_isReckoning rfl rfl (by decide) (by decide) ⟨Nat.le_refl _, Nat.le_refl _⟩ (Nat.le_of_ble_eq_true rfl) (b_rkn γ h1 h2 h3 h4) (fun v1 S1 I1 J1 hp => ?_)
      obtain ⟨rfl, rfl, rfl, rfl⟩ := hp
      show Rj _ _ _ _ _ _ (28, [some (.ref 95), some (.int 1), some (.int 45), some (.int (nI k)), none, none], [.int 0], (SS b true), X, J, 0, 0)
      refine r_ifc okX5_readSum rfl (fun (h28 : (0 : Int32) = (0 : Int32)) => ?_) (fun (h28 : ¬ (0 : Int32) = (0 : Int32)) => ?_)
      · refine r_run okX5_readSum 2 (cs := []) (σ' := (140, [some (.ref 95), some (.int 1), some (.int 45), some (.int (nI k)), none, none], [.int 18, .int 45], (SS b true), X, J, 0, 0)) rfl trivial ?_
        refine r_icmp okX5_readSum rfl (fun (h140_1 : (45 : Int32) = (18 : Int32)) => ?_) (fun (h140_1 : ¬ (45 : Int32) = (18 : Int32)) => ?_)
        · exact absurd h140_1 (by decide)
        · refine r_run okX5_readSum 4 (cs := []) (σ' := (149, [some (.ref 95), some (.int 1), some (.int 45), some (.int (nI k)), none, none], [.int 0, .int 45, .ref 79], (SS b true), X, J, 0, 0)) rfl trivial ?_
          refine r_callV okX5_readSum okX6_add [.int 45, .int 0] [] 79 rfl rfl rfl kkX6_add rfl rfl (by decide) rfl rfl rfl (by decide) ⟨Nat.le_refl _, Nat.le_refl _⟩ (Nat.le_of_ble_eq_true rfl) (a_add79 γ hO (by simp only [List.length_append, List.length_cons, List.length_nil] at *; omega) (p := (3, 0)) rfl) (fun v1 S1 I1 J1 hp => ?_)
          obtain ⟨rfl, rfl, ⟨fXe, oXe⟩, rfl⟩ := hp
          obtain ⟨Xe, eXe⟩ : ∃ z, z = I1 := ⟨_, rfl⟩
          subst eXe
          show Rj _ _ _ _ _ _ (152, [some (.ref 95), some (.int 1), some (.int 45), some (.int (nI k)), none, none], [.int 1], (SS b true), Xe, J, 0, 0)
          refine r_run okX5_readSum 2 (cs := []) (σ' := (154, [some (.ref 95), some (.int 1), some (.int 45), some (.int (nI k)), none, none], [.int 1], (SS b true), Xe, J, 0, 0)) rfl trivial ?_
          refine r_iret okX5_readSum rfl rfl (by decide +kernel) (Nat.le_refl _) (Nat.le_refl _) ?_
          have hs : SmT T n 1 (some 3) i acc (.inr (acc ++ wC (some 3), i)) := by
            unfold SmT; rw [if_neg (fun z => z.elim h1 h2), if_neg h3, if_neg h4]
          exact ⟨rfl, rfl, _, hd _ ⟨1, hs⟩, fr_t hf (fA_X fXe), rfl, PsO_k (by decide) fXe hP, by show OuO Xe 79 (l ++ (acc ++ [(3, 0)])); rw [← List.append_assoc]; exact oXe⟩
      · exact absurd h28 (by decide)
theorem sm_43_2_79 (γ : GE) {b : Bool} {J : AJ} {T : Nat → Int32} {n N i0 : Nat} {l : Cd} {X0 : AI} {X : AI} {i k : Nat} {acc : Cd} (h : kK T n i = 43) (hT : Tkn T n N X) (hP : PsO T n N X i) (hO : OuO X 79 (l ++ acc)) (hl : (l ++ acc).length + (wC (some 3)).length ≤ i) (hk : k ≤ i) (hf : fr (qX 79) X0 X) (hd : ∀ res, (∃ f, SmT T n f (some 3) i acc res) → Sm T n i0 res) (K : ∀ (q : Cd × Nat) (Y : AI), uR T n (i + 1) = .inr q → Tkn T n N Y → PsO T n N Y q.2 → OuO Y 79 (l ++ (acc ++ wC (some 3) ++ q.1)) → fr (qX 79) X0 Y → Rj γ mX5_readSum 2 0 0 (fun r S' I' J' => (SS b true) = S' ∧ J = J' ∧ ∃ res, Sm T n i0 res ∧ RsO T n N 79 X0 l res r I') (10, [some (.ref 95), some (.int 1), some (.int 43), some (.int (nI (k + 1))), none, none], [], (SS b true), Y, J, 0, 0)) : Rj γ mX5_readSum 2 0 0 (fun r S' I' J' => (SS b true) = S' ∧ J = J' ∧ ∃ res, Sm T n i0 res ∧ RsO T n N 79 X0 l res r I') (10, [some (.ref 95), some (.int 1), some (.int 45), some (.int (nI k)), none, none], [], (SS b true), X, J, 0, 0) := by
  have hlw : (wC (some 3)).length = 1 := rfl
  have hN := hT.1
  have hiN := hP.1
  have e7 : X 95 7 = 43 := hP.2.2.1.trans h
  have hi : i < N := kK_lt hT hiN (by rw [h]; decide)
  refine r_run okX5_readSum 2 (cs := []) (σ' := (14, [some (.ref 95), some (.int 1), some (.int 45), some (.int (nI k)), none, none], [.int 800, .int (nI k)], (SS b true), X, J, 0, 0)) rfl trivial ?_
  refine r_icmp okX5_readSum rfl (fun (h14 : (800 : Int32) ≤ (nI k)) => ?_) (fun (h14 : ¬ (800 : Int32) ≤ (nI k)) => ?_)
  · exact absurd h14 (nI_ge (b := 800) (by omega) (by decide))
  · refine r_run okX5_readSum 1 (cs := []) (σ' := (18, [some (.ref 95), some (.int 1), some (.int 45), some (.int (nI k)), none, none], [.int 1], (SS b true), X, J, 0, 0)) rfl trivial ?_
    refine r_ifc okX5_readSum rfl (fun (h18 : (1 : Int32) = (0 : Int32)) => ?_) (fun (h18 : ¬ (1 : Int32) = (0 : Int32)) => ?_)
    · exact absurd h18 (by decide)
    · refine r_run okX5_readSum 2 (cs := []) (σ' := (25, [some (.ref 95), some (.int 1), some (.int 45), some (.int (nI k)), none, none], [.int (X 95 7)], (SS b true), X, J, 0, 0)) rfl trivial ?_
      simp only [e7]
      show Rj _ _ _ _ _ _ (25, [some (.ref 95), some (.int 1), some (.int 45), some (.int (nI k)), none, none], [.int 43], (SS b true), X, J, 0, 0)
      refine r_callS okX5_readSum okX5_isReckoning [.int 43] [] rfl rfl rfl kkX5_isReckoning rfl rfl (by decide) (by decide) ⟨Nat.le_refl _, Nat.le_refl _⟩ (Nat.le_of_ble_eq_true rfl) (b_rk43 γ) (fun v1 S1 I1 J1 hp => ?_)
      obtain ⟨rfl, rfl, rfl, rfl⟩ := hp
      show Rj _ _ _ _ _ _ (28, [some (.ref 95), some (.int 1), some (.int 45), some (.int (nI k)), none, none], [.int 1], (SS b true), X, J, 0, 0)
      refine r_ifc okX5_readSum rfl (fun (h28 : (1 : Int32) = (0 : Int32)) => ?_) (fun (h28 : ¬ (1 : Int32) = (0 : Int32)) => ?_)
      · exact absurd h28 (by decide)
      · refine r_run okX5_readSum 5 (cs := []) (σ' := (41, [some (.ref 95), some (.int 1), some (.int 45), some (.int (nI k)), some (.int (X 95 7)), none], [.int 43, .int (X 95 7)], (SS b true), X, J, 0, 0)) rfl trivial ?_
        simp only [e7]
        show Rj _ _ _ _ _ _ (41, [some (.ref 95), some (.int 1), some (.int 45), some (.int (nI k)), some (.int 43), none], [.int 43, .int 43], (SS b true), X, J, 0, 0)
        refine r_icmp okX5_readSum rfl (fun (h41 : (43 : Int32) = (43 : Int32)) => ?_) (fun (h41 : ¬ (43 : Int32) = (43 : Int32)) => ?_)
        · refine r_run okX5_readSum 4 (cs := []) (σ' := (60, [some (.ref 95), some (.int 1), some (.int 45), some (.int (nI k)), some (.int 43), some (.int 1)], [.int 1], (SS b true), X, J, 0, 0)) rfl trivial ?_
          refine r_ifc okX5_readSum rfl (fun (h60 : (1 : Int32) = (0 : Int32)) => ?_) (fun (h60 : ¬ (1 : Int32) = (0 : Int32)) => ?_)
          · exact absurd h60 (by decide)
          · refine r_run okX5_readSum 2 (cs := []) (σ' := (66, [some (.ref 95), some (.int 1), some (.int 45), some (.int (nI k)), some (.int 43), some (.int 1)], [.int 18, .int 45], (SS b true), X, J, 0, 0)) rfl trivial ?_
            refine r_icmp okX5_readSum rfl (fun (h66 : (45 : Int32) = (18 : Int32)) => ?_) (fun (h66 : ¬ (45 : Int32) = (18 : Int32)) => ?_)
            · exact absurd h66 (by decide)
            · refine r_run okX5_readSum 4 (cs := []) (σ' := (75, [some (.ref 95), some (.int 1), some (.int 45), some (.int (nI k)), some (.int 43), some (.int 1)], [.int 0, .int 45, .ref 79], (SS b true), X, J, 0, 0)) rfl trivial ?_
              refine r_callV okX5_readSum okX6_add [.int 45, .int 0] [] 79 rfl rfl rfl kkX6_add rfl rfl (by decide) rfl rfl rfl (by decide) ⟨Nat.le_refl _, Nat.le_refl _⟩ (Nat.le_of_ble_eq_true rfl) (a_add79 γ hO (by simp only [List.length_append, List.length_cons, List.length_nil] at *; omega) (p := (3, 0)) rfl) (fun v1 S1 I1 J1 hp => ?_)
              obtain ⟨rfl, rfl, ⟨fXw, oXw⟩, rfl⟩ := hp
              obtain ⟨Xw, eXw⟩ : ∃ z, z = I1 := ⟨_, rfl⟩
              subst eXw
              show Rj _ _ _ _ _ _ (78, [some (.ref 95), some (.int 1), some (.int 45), some (.int (nI k)), some (.int 43), some (.int 1)], [.int 1], (SS b true), Xw, J, 0, 0)
              refine r_run okX5_readSum 2 (cs := []) (σ' := (80, [some (.ref 95), some (.int 1), some (.int 45), some (.int (nI k)), some (.int 43), some (.int 1)], [.ref 95], (SS b true), Xw, J, 0, 0)) rfl trivial ?_
              refine r_callV okX5_readSum okX5_advance [] [] 95 rfl rfl rfl kkX5_advance rfl rfl (by decide) rfl rfl rfl (by decide) ⟨Nat.le_refl _, Nat.le_refl _⟩ (Nat.le_of_ble_eq_true rfl) (b_adv79 γ (Tkn_k (A := 79) (by decide) (fA_X fXw) hT) (PsO_k (by decide) fXw hP) hi) (fun v1 S1 I1 J1 hp => ?_)
              obtain ⟨rfl, rfl, ⟨fXa, pXa⟩, rfl⟩ := hp
              obtain ⟨Xa, eXa⟩ : ∃ z, z = I1 := ⟨_, rfl⟩
              subst eXa
              have hTa : Tkn T n N Xa := Tkn_k (A := 79) (by decide) (f9_X fXa) (Tkn_k (A := 79) (by decide) (fA_X fXw) hT)
              have hOa := OuO_9 (by decide) fXa oXw
              have hfa : fr (qX 79) X0 Xa := fr_t hf (fr_t (fA_X fXw) (f9_X fXa))
              show Rj _ _ _ _ _ _ (83, [some (.ref 95), some (.int 1), some (.int 45), some (.int (nI k)), some (.int 43), some (.int 1)], [], (SS b true), Xa, J, 0, 0)
              refine r_run okX5_readSum 2 (cs := []) (σ' := (87, [some (.ref 95), some (.int 1), some (.int 45), some (.int (nI k)), some (.int 43), some (.int 1)], [.int 47, .int 43], (SS b true), Xa, J, 0, 0)) rfl trivial ?_
              refine r_icmp okX5_readSum rfl (fun (h87 : ¬ (43 : Int32) = (47 : Int32)) => ?_) (fun h870 => ?_)
              · refine r_run okX5_readSum 1 (cs := []) (σ' := (98, [some (.ref 95), some (.int 1), some (.int 45), some (.int (nI k)), some (.int 43), some (.int 1)], [.ref 95], (SS b true), Xa, J, 0, 0)) rfl trivial ?_
                refine r_callV okX5_readSum okX5_readUnit [] [] 95 rfl rfl rfl kkX5_readUnit rfl rfl (by decide) rfl rfl rfl (by decide) ⟨Nat.le_refl _, Nat.le_refl _⟩ (Nat.le_of_ble_eq_true rfl) (b_unit79 γ hTa pXa hOa (by simp only [List.length_append, List.length_cons, List.length_nil] at *; omega)) (fun v1 S1 I1 J1 hp => ?_)
                obtain ⟨rfl, rfl, hfr, hr⟩ := hp
                obtain ⟨Xu, eXu⟩ : ∃ z, z = I1 := ⟨_, rfl⟩
                subst eXu
                cases hu : uR T n (i + 1) with
                | inl e =>
                  rw [hu] at hr
                  obtain ⟨rfl, gF, gE⟩ := hr
                  have hfu : fr (qX 79) X0 Xu := fr_t hfa hfr
                  have hs : SmT T n 1 (some 3) i acc (.inl e) := by unfold SmT; rw [if_pos (Or.inl h)]; simp only [hu]
                  show Rj _ _ _ _ _ _ (101, [some (.ref 95), some (.int 1), some (.int 45), some (.int (nI k)), some (.int 43), some (.int 1)], [.int 0], (SS b true), Xu, J, 0, 0)
                  refine r_run okX5_readSum 2 (cs := []) (σ' := (104, [some (.ref 95), some (.int 0), some (.int 45), some (.int (nI k)), some (.int 43), some (.int 1)], [.int 1], (SS b true), Xu, J, 0, 0)) rfl trivial ?_
                  refine r_ifc okX5_readSum rfl (fun (h104 : (1 : Int32) = (0 : Int32)) => ?_) (fun (h104 : ¬ (1 : Int32) = (0 : Int32)) => ?_)
                  · exact absurd h104 (by decide)
                  · refine r_run okX5_readSum 7 (cs := []) (σ' := (14, [some (.ref 95), some (.int 0), some (.int 43), some (.int ((nI k) + 1)), some (.int 43), some (.int 1)], [.int 800, .int ((nI k) + 1)], (SS b true), Xu, J, 0, 0)) rfl trivial ?_
                    refine r_icmp okX5_readSum rfl (fun (h14_1 : (800 : Int32) ≤ ((nI k) + 1)) => ?_) (fun (h14_1 : ¬ (800 : Int32) ≤ ((nI k) + 1)) => ?_)
                    · refine r_run okX5_readSum 2 (cs := []) (σ' := (140, [some (.ref 95), some (.int 0), some (.int 43), some (.int ((nI k) + 1)), some (.int 43), some (.int 1)], [.int 18, .int 43], (SS b true), Xu, J, 0, 0)) rfl trivial ?_
                      refine r_icmp okX5_readSum rfl (fun (h140 : (43 : Int32) = (18 : Int32)) => ?_) (fun (h140 : ¬ (43 : Int32) = (18 : Int32)) => ?_)
                      · exact absurd h140 (by decide)
                      · refine r_run okX5_readSum 4 (cs := []) (σ' := (149, [some (.ref 95), some (.int 0), some (.int 43), some (.int ((nI k) + 1)), some (.int 43), some (.int 1)], [.int 0, .int 43, .ref 79], (SS b true), Xu, J, 0, 0)) rfl trivial ?_
                        refine r_callV okX5_readSum okX6_add [.int 43, .int 0] [] 79 rfl rfl rfl kkX6_add rfl rfl (by decide) rfl rfl rfl (by decide) ⟨Nat.le_refl _, Nat.le_refl _⟩ (Nat.le_of_ble_eq_true rfl) (a_addF79 γ gF 43 0) (fun v1 S1 I1 J1 hp => ?_)
                        obtain ⟨⟨zXf1, rfl⟩, rfl, ⟨fXf1, oXf1⟩, rfl⟩ := hp
                        obtain ⟨Xf1, eXf1⟩ : ∃ z, z = I1 := ⟨_, rfl⟩
                        subst eXf1
                        show Rj _ _ _ _ _ _ (152, [some (.ref 95), some (.int 0), some (.int 43), some (.int ((nI k) + 1)), some (.int 43), some (.int 1)], [.int zXf1], (SS b true), Xf1, J, 0, 0)
                        refine r_run okX5_readSum 2 (cs := []) (σ' := (154, [some (.ref 95), some (.int 0), some (.int 43), some (.int ((nI k) + 1)), some (.int 43), some (.int 1)], [.int 0], (SS b true), Xf1, J, 0, 0)) rfl trivial ?_
                        refine r_iret okX5_readSum rfl rfl (by decide +kernel) (Nat.le_refl _) (Nat.le_refl _) ?_
                        exact ⟨rfl, rfl, .inl e, hd _ ⟨1, hs⟩, (fr_t hfu (fA_X fXf1)), rfl, oXf1, (FlO_k (by decide) fXf1 gE)⟩
                    · refine r_run okX5_readSum 1 (cs := []) (σ' := (18, [some (.ref 95), some (.int 0), some (.int 43), some (.int ((nI k) + 1)), some (.int 43), some (.int 1)], [.int 0], (SS b true), Xu, J, 0, 0)) rfl trivial ?_
                      refine r_ifc okX5_readSum rfl (fun (h18_1 : (0 : Int32) = (0 : Int32)) => ?_) (fun (h18_1 : ¬ (0 : Int32) = (0 : Int32)) => ?_)
                      · refine r_run okX5_readSum 2 (cs := []) (σ' := (140, [some (.ref 95), some (.int 0), some (.int 43), some (.int ((nI k) + 1)), some (.int 43), some (.int 1)], [.int 18, .int 43], (SS b true), Xu, J, 0, 0)) rfl trivial ?_
                        refine r_icmp okX5_readSum rfl (fun (h140_1 : (43 : Int32) = (18 : Int32)) => ?_) (fun (h140_1 : ¬ (43 : Int32) = (18 : Int32)) => ?_)
                        · exact absurd h140_1 (by decide)
                        · refine r_run okX5_readSum 4 (cs := []) (σ' := (149, [some (.ref 95), some (.int 0), some (.int 43), some (.int ((nI k) + 1)), some (.int 43), some (.int 1)], [.int 0, .int 43, .ref 79], (SS b true), Xu, J, 0, 0)) rfl trivial ?_
                          refine r_callV okX5_readSum okX6_add [.int 43, .int 0] [] 79 rfl rfl rfl kkX6_add rfl rfl (by decide) rfl rfl rfl (by decide) ⟨Nat.le_refl _, Nat.le_refl _⟩ (Nat.le_of_ble_eq_true rfl) (a_addF79 γ gF 43 0) (fun v1 S1 I1 J1 hp => ?_)
                          obtain ⟨⟨zXf1, rfl⟩, rfl, ⟨fXf1, oXf1⟩, rfl⟩ := hp
                          obtain ⟨Xf1, eXf1⟩ : ∃ z, z = I1 := ⟨_, rfl⟩
                          subst eXf1
                          show Rj _ _ _ _ _ _ (152, [some (.ref 95), some (.int 0), some (.int 43), some (.int ((nI k) + 1)), some (.int 43), some (.int 1)], [.int zXf1], (SS b true), Xf1, J, 0, 0)
                          refine r_run okX5_readSum 2 (cs := []) (σ' := (154, [some (.ref 95), some (.int 0), some (.int 43), some (.int ((nI k) + 1)), some (.int 43), some (.int 1)], [.int 0], (SS b true), Xf1, J, 0, 0)) rfl trivial ?_
                          refine r_iret okX5_readSum rfl rfl (by decide +kernel) (Nat.le_refl _) (Nat.le_refl _) ?_
                          exact ⟨rfl, rfl, .inl e, hd _ ⟨1, hs⟩, (fr_t hfu (fA_X fXf1)), rfl, oXf1, (FlO_k (by decide) fXf1 gE)⟩
                      · exact absurd h18_1 (by decide)
                | inr q =>
                  rw [hu] at hr
                  obtain ⟨rfl, gP, gO⟩ := hr
                  have hq1 := uR_l1 hu
                  have hq2 := gP.1
                  show Rj _ _ _ _ _ _ (101, [some (.ref 95), some (.int 1), some (.int 45), some (.int (nI k)), some (.int 43), some (.int 1)], [.int 1], (SS b true), Xu, J, 0, 0)
                  refine r_run okX5_readSum 2 (cs := []) (σ' := (104, [some (.ref 95), some (.int 1), some (.int 45), some (.int (nI k)), some (.int 43), some (.int 1)], [.int 1], (SS b true), Xu, J, 0, 0)) rfl trivial ?_
                  refine r_ifc okX5_readSum rfl (fun (h104_1 : (1 : Int32) = (0 : Int32)) => ?_) (fun (h104_1 : ¬ (1 : Int32) = (0 : Int32)) => ?_)
                  · exact absurd h104_1 (by decide)
                  · refine r_run okX5_readSum 5 (cs := []) (σ' := (10, [some (.ref 95), some (.int 1), some (.int 43), some (.int ((nI k) + 1)), some (.int 43), some (.int 1)], [], (SS b true), Xu, J, 0, 0)) rfl trivial ?_
                    rw [← nI_succ]
                    refine r_weak (L' := [some (.ref 95), some (.int 1), some (.int 43), some (.int (nI (k + 1))), none, none]) ⟨rfl, rfl, rfl, rfl, trivial⟩ ?_
                    refine K q _ hu (Tkn_k (A := 79) (by decide) hfr hTa) gP ?_ (fr_t hfa hfr)
                    rw [show l ++ (acc ++ wC (some 3) ++ q.1) = l ++ acc ++ wC (some 3) ++ q.1 by simp only [List.append_assoc]]
                    exact gO
              · have h87 : (43 : Int32) = (47 : Int32) := Classical.not_not.mp h870
                exact absurd h87 (by decide)
        · exact absurd h41 (by decide)
theorem sm_45_2_79 (γ : GE) {b : Bool} {J : AJ} {T : Nat → Int32} {n N i0 : Nat} {l : Cd} {X0 : AI} {X : AI} {i k : Nat} {acc : Cd} (h : kK T n i = 45) (hT : Tkn T n N X) (hP : PsO T n N X i) (hO : OuO X 79 (l ++ acc)) (hl : (l ++ acc).length + (wC (some 3)).length ≤ i) (hk : k ≤ i) (hf : fr (qX 79) X0 X) (hd : ∀ res, (∃ f, SmT T n f (some 3) i acc res) → Sm T n i0 res) (K : ∀ (q : Cd × Nat) (Y : AI), uR T n (i + 1) = .inr q → Tkn T n N Y → PsO T n N Y q.2 → OuO Y 79 (l ++ (acc ++ wC (some 3) ++ q.1)) → fr (qX 79) X0 Y → Rj γ mX5_readSum 2 0 0 (fun r S' I' J' => (SS b true) = S' ∧ J = J' ∧ ∃ res, Sm T n i0 res ∧ RsO T n N 79 X0 l res r I') (10, [some (.ref 95), some (.int 1), some (.int 45), some (.int (nI (k + 1))), none, none], [], (SS b true), Y, J, 0, 0)) : Rj γ mX5_readSum 2 0 0 (fun r S' I' J' => (SS b true) = S' ∧ J = J' ∧ ∃ res, Sm T n i0 res ∧ RsO T n N 79 X0 l res r I') (10, [some (.ref 95), some (.int 1), some (.int 45), some (.int (nI k)), none, none], [], (SS b true), X, J, 0, 0) := by
  have hlw : (wC (some 3)).length = 1 := rfl
  have hN := hT.1
  have hiN := hP.1
  have e7 : X 95 7 = 45 := hP.2.2.1.trans h
  have hi : i < N := kK_lt hT hiN (by rw [h]; decide)
  refine r_run okX5_readSum 2 (cs := []) (σ' := (14, [some (.ref 95), some (.int 1), some (.int 45), some (.int (nI k)), none, none], [.int 800, .int (nI k)], (SS b true), X, J, 0, 0)) rfl trivial ?_
  refine r_icmp okX5_readSum rfl (fun (h14 : (800 : Int32) ≤ (nI k)) => ?_) (fun (h14 : ¬ (800 : Int32) ≤ (nI k)) => ?_)
  · exact absurd h14 (nI_ge (b := 800) (by omega) (by decide))
  · refine r_run okX5_readSum 1 (cs := []) (σ' := (18, [some (.ref 95), some (.int 1), some (.int 45), some (.int (nI k)), none, none], [.int 1], (SS b true), X, J, 0, 0)) rfl trivial ?_
    refine r_ifc okX5_readSum rfl (fun (h18 : (1 : Int32) = (0 : Int32)) => ?_) (fun (h18 : ¬ (1 : Int32) = (0 : Int32)) => ?_)
    · exact absurd h18 (by decide)
    · refine r_run okX5_readSum 2 (cs := []) (σ' := (25, [some (.ref 95), some (.int 1), some (.int 45), some (.int (nI k)), none, none], [.int (X 95 7)], (SS b true), X, J, 0, 0)) rfl trivial ?_
      simp only [e7]
      show Rj _ _ _ _ _ _ (25, [some (.ref 95), some (.int 1), some (.int 45), some (.int (nI k)), none, none], [.int 45], (SS b true), X, J, 0, 0)
      refine r_callS okX5_readSum okX5_isReckoning [.int 45] [] rfl rfl rfl kkX5_isReckoning rfl rfl (by decide) (by decide) ⟨Nat.le_refl _, Nat.le_refl _⟩ (Nat.le_of_ble_eq_true rfl) (b_rk45 γ) (fun v1 S1 I1 J1 hp => ?_)
      obtain ⟨rfl, rfl, rfl, rfl⟩ := hp
      show Rj _ _ _ _ _ _ (28, [some (.ref 95), some (.int 1), some (.int 45), some (.int (nI k)), none, none], [.int 1], (SS b true), X, J, 0, 0)
      refine r_ifc okX5_readSum rfl (fun (h28 : (1 : Int32) = (0 : Int32)) => ?_) (fun (h28 : ¬ (1 : Int32) = (0 : Int32)) => ?_)
      · exact absurd h28 (by decide)
      · refine r_run okX5_readSum 5 (cs := []) (σ' := (41, [some (.ref 95), some (.int 1), some (.int 45), some (.int (nI k)), some (.int (X 95 7)), none], [.int 43, .int (X 95 7)], (SS b true), X, J, 0, 0)) rfl trivial ?_
        simp only [e7]
        show Rj _ _ _ _ _ _ (41, [some (.ref 95), some (.int 1), some (.int 45), some (.int (nI k)), some (.int 45), none], [.int 43, .int 45], (SS b true), X, J, 0, 0)
        refine r_icmp okX5_readSum rfl (fun (h41 : (45 : Int32) = (43 : Int32)) => ?_) (fun (h41 : ¬ (45 : Int32) = (43 : Int32)) => ?_)
        · exact absurd h41 (by decide)
        · refine r_run okX5_readSum 2 (cs := []) (σ' := (48, [some (.ref 95), some (.int 1), some (.int 45), some (.int (nI k)), some (.int 45), none], [.int 45, .int 45], (SS b true), X, J, 0, 0)) rfl trivial ?_
          refine r_icmp okX5_readSum rfl (fun (h48 : ¬ (45 : Int32) = (45 : Int32)) => ?_) (fun h480 => ?_)
          · exact absurd h48 (by decide)
          · have h48 : (45 : Int32) = (45 : Int32) := Classical.not_not.mp h480
            refine r_run okX5_readSum 4 (cs := []) (σ' := (60, [some (.ref 95), some (.int 1), some (.int 45), some (.int (nI k)), some (.int 45), some (.int 1)], [.int 1], (SS b true), X, J, 0, 0)) rfl trivial ?_
            refine r_ifc okX5_readSum rfl (fun (h60 : (1 : Int32) = (0 : Int32)) => ?_) (fun (h60 : ¬ (1 : Int32) = (0 : Int32)) => ?_)
            · exact absurd h60 (by decide)
            · refine r_run okX5_readSum 2 (cs := []) (σ' := (66, [some (.ref 95), some (.int 1), some (.int 45), some (.int (nI k)), some (.int 45), some (.int 1)], [.int 18, .int 45], (SS b true), X, J, 0, 0)) rfl trivial ?_
              refine r_icmp okX5_readSum rfl (fun (h66 : (45 : Int32) = (18 : Int32)) => ?_) (fun (h66 : ¬ (45 : Int32) = (18 : Int32)) => ?_)
              · exact absurd h66 (by decide)
              · refine r_run okX5_readSum 4 (cs := []) (σ' := (75, [some (.ref 95), some (.int 1), some (.int 45), some (.int (nI k)), some (.int 45), some (.int 1)], [.int 0, .int 45, .ref 79], (SS b true), X, J, 0, 0)) rfl trivial ?_
                refine r_callV okX5_readSum okX6_add [.int 45, .int 0] [] 79 rfl rfl rfl kkX6_add rfl rfl (by decide) rfl rfl rfl (by decide) ⟨Nat.le_refl _, Nat.le_refl _⟩ (Nat.le_of_ble_eq_true rfl) (a_add79 γ hO (by simp only [List.length_append, List.length_cons, List.length_nil] at *; omega) (p := (3, 0)) rfl) (fun v1 S1 I1 J1 hp => ?_)
                obtain ⟨rfl, rfl, ⟨fXw, oXw⟩, rfl⟩ := hp
                obtain ⟨Xw, eXw⟩ : ∃ z, z = I1 := ⟨_, rfl⟩
                subst eXw
                show Rj _ _ _ _ _ _ (78, [some (.ref 95), some (.int 1), some (.int 45), some (.int (nI k)), some (.int 45), some (.int 1)], [.int 1], (SS b true), Xw, J, 0, 0)
                refine r_run okX5_readSum 2 (cs := []) (σ' := (80, [some (.ref 95), some (.int 1), some (.int 45), some (.int (nI k)), some (.int 45), some (.int 1)], [.ref 95], (SS b true), Xw, J, 0, 0)) rfl trivial ?_
                refine r_callV okX5_readSum okX5_advance [] [] 95 rfl rfl rfl kkX5_advance rfl rfl (by decide) rfl rfl rfl (by decide) ⟨Nat.le_refl _, Nat.le_refl _⟩ (Nat.le_of_ble_eq_true rfl) (b_adv79 γ (Tkn_k (A := 79) (by decide) (fA_X fXw) hT) (PsO_k (by decide) fXw hP) hi) (fun v1 S1 I1 J1 hp => ?_)
                obtain ⟨rfl, rfl, ⟨fXa, pXa⟩, rfl⟩ := hp
                obtain ⟨Xa, eXa⟩ : ∃ z, z = I1 := ⟨_, rfl⟩
                subst eXa
                have hTa : Tkn T n N Xa := Tkn_k (A := 79) (by decide) (f9_X fXa) (Tkn_k (A := 79) (by decide) (fA_X fXw) hT)
                have hOa := OuO_9 (by decide) fXa oXw
                have hfa : fr (qX 79) X0 Xa := fr_t hf (fr_t (fA_X fXw) (f9_X fXa))
                show Rj _ _ _ _ _ _ (83, [some (.ref 95), some (.int 1), some (.int 45), some (.int (nI k)), some (.int 45), some (.int 1)], [], (SS b true), Xa, J, 0, 0)
                refine r_run okX5_readSum 2 (cs := []) (σ' := (87, [some (.ref 95), some (.int 1), some (.int 45), some (.int (nI k)), some (.int 45), some (.int 1)], [.int 47, .int 45], (SS b true), Xa, J, 0, 0)) rfl trivial ?_
                refine r_icmp okX5_readSum rfl (fun (h87 : ¬ (45 : Int32) = (47 : Int32)) => ?_) (fun h870 => ?_)
                · refine r_run okX5_readSum 1 (cs := []) (σ' := (98, [some (.ref 95), some (.int 1), some (.int 45), some (.int (nI k)), some (.int 45), some (.int 1)], [.ref 95], (SS b true), Xa, J, 0, 0)) rfl trivial ?_
                  refine r_callV okX5_readSum okX5_readUnit [] [] 95 rfl rfl rfl kkX5_readUnit rfl rfl (by decide) rfl rfl rfl (by decide) ⟨Nat.le_refl _, Nat.le_refl _⟩ (Nat.le_of_ble_eq_true rfl) (b_unit79 γ hTa pXa hOa (by simp only [List.length_append, List.length_cons, List.length_nil] at *; omega)) (fun v1 S1 I1 J1 hp => ?_)
                  obtain ⟨rfl, rfl, hfr, hr⟩ := hp
                  obtain ⟨Xu, eXu⟩ : ∃ z, z = I1 := ⟨_, rfl⟩
                  subst eXu
                  cases hu : uR T n (i + 1) with
                  | inl e =>
                    rw [hu] at hr
                    obtain ⟨rfl, gF, gE⟩ := hr
                    have hfu : fr (qX 79) X0 Xu := fr_t hfa hfr
                    have hs : SmT T n 1 (some 3) i acc (.inl e) := by unfold SmT; rw [if_pos (Or.inr h)]; simp only [hu]
                    show Rj _ _ _ _ _ _ (101, [some (.ref 95), some (.int 1), some (.int 45), some (.int (nI k)), some (.int 45), some (.int 1)], [.int 0], (SS b true), Xu, J, 0, 0)
                    refine r_run okX5_readSum 2 (cs := []) (σ' := (104, [some (.ref 95), some (.int 0), some (.int 45), some (.int (nI k)), some (.int 45), some (.int 1)], [.int 1], (SS b true), Xu, J, 0, 0)) rfl trivial ?_
                    refine r_ifc okX5_readSum rfl (fun (h104 : (1 : Int32) = (0 : Int32)) => ?_) (fun (h104 : ¬ (1 : Int32) = (0 : Int32)) => ?_)
                    · exact absurd h104 (by decide)
                    · refine r_run okX5_readSum 7 (cs := []) (σ' := (14, [some (.ref 95), some (.int 0), some (.int 45), some (.int ((nI k) + 1)), some (.int 45), some (.int 1)], [.int 800, .int ((nI k) + 1)], (SS b true), Xu, J, 0, 0)) rfl trivial ?_
                      refine r_icmp okX5_readSum rfl (fun (h14_1 : (800 : Int32) ≤ ((nI k) + 1)) => ?_) (fun (h14_1 : ¬ (800 : Int32) ≤ ((nI k) + 1)) => ?_)
                      · refine r_run okX5_readSum 2 (cs := []) (σ' := (140, [some (.ref 95), some (.int 0), some (.int 45), some (.int ((nI k) + 1)), some (.int 45), some (.int 1)], [.int 18, .int 45], (SS b true), Xu, J, 0, 0)) rfl trivial ?_
                        refine r_icmp okX5_readSum rfl (fun (h140 : (45 : Int32) = (18 : Int32)) => ?_) (fun (h140 : ¬ (45 : Int32) = (18 : Int32)) => ?_)
                        · exact absurd h140 (by decide)
                        · refine r_run okX5_readSum 4 (cs := []) (σ' := (149, [some (.ref 95), some (.int 0), some (.int 45), some (.int ((nI k) + 1)), some (.int 45), some (.int 1)], [.int 0, .int 45, .ref 79], (SS b true), Xu, J, 0, 0)) rfl trivial ?_
                          refine r_callV okX5_readSum okX6_add [.int 45, .int 0] [] 79 rfl rfl rfl kkX6_add rfl rfl (by decide) rfl rfl rfl (by decide) ⟨Nat.le_refl _, Nat.le_refl _⟩ (Nat.le_of_ble_eq_true rfl) (a_addF79 γ gF 45 0) (fun v1 S1 I1 J1 hp => ?_)
                          obtain ⟨⟨zXf1, rfl⟩, rfl, ⟨fXf1, oXf1⟩, rfl⟩ := hp
                          obtain ⟨Xf1, eXf1⟩ : ∃ z, z = I1 := ⟨_, rfl⟩
                          subst eXf1
                          show Rj _ _ _ _ _ _ (152, [some (.ref 95), some (.int 0), some (.int 45), some (.int ((nI k) + 1)), some (.int 45), some (.int 1)], [.int zXf1], (SS b true), Xf1, J, 0, 0)
                          refine r_run okX5_readSum 2 (cs := []) (σ' := (154, [some (.ref 95), some (.int 0), some (.int 45), some (.int ((nI k) + 1)), some (.int 45), some (.int 1)], [.int 0], (SS b true), Xf1, J, 0, 0)) rfl trivial ?_
                          refine r_iret okX5_readSum rfl rfl (by decide +kernel) (Nat.le_refl _) (Nat.le_refl _) ?_
                          exact ⟨rfl, rfl, .inl e, hd _ ⟨1, hs⟩, (fr_t hfu (fA_X fXf1)), rfl, oXf1, (FlO_k (by decide) fXf1 gE)⟩
                      · refine r_run okX5_readSum 1 (cs := []) (σ' := (18, [some (.ref 95), some (.int 0), some (.int 45), some (.int ((nI k) + 1)), some (.int 45), some (.int 1)], [.int 0], (SS b true), Xu, J, 0, 0)) rfl trivial ?_
                        refine r_ifc okX5_readSum rfl (fun (h18_1 : (0 : Int32) = (0 : Int32)) => ?_) (fun (h18_1 : ¬ (0 : Int32) = (0 : Int32)) => ?_)
                        · refine r_run okX5_readSum 2 (cs := []) (σ' := (140, [some (.ref 95), some (.int 0), some (.int 45), some (.int ((nI k) + 1)), some (.int 45), some (.int 1)], [.int 18, .int 45], (SS b true), Xu, J, 0, 0)) rfl trivial ?_
                          refine r_icmp okX5_readSum rfl (fun (h140_1 : (45 : Int32) = (18 : Int32)) => ?_) (fun (h140_1 : ¬ (45 : Int32) = (18 : Int32)) => ?_)
                          · exact absurd h140_1 (by decide)
                          · refine r_run okX5_readSum 4 (cs := []) (σ' := (149, [some (.ref 95), some (.int 0), some (.int 45), some (.int ((nI k) + 1)), some (.int 45), some (.int 1)], [.int 0, .int 45, .ref 79], (SS b true), Xu, J, 0, 0)) rfl trivial ?_
                            refine r_callV okX5_readSum okX6_add [.int 45, .int 0] [] 79 rfl rfl rfl kkX6_add rfl rfl (by decide) rfl rfl rfl (by decide) ⟨Nat.le_refl _, Nat.le_refl _⟩ (Nat.le_of_ble_eq_true rfl) (a_addF79 γ gF 45 0) (fun v1 S1 I1 J1 hp => ?_)
                            obtain ⟨⟨zXf1, rfl⟩, rfl, ⟨fXf1, oXf1⟩, rfl⟩ := hp
                            obtain ⟨Xf1, eXf1⟩ : ∃ z, z = I1 := ⟨_, rfl⟩
                            subst eXf1
                            show Rj _ _ _ _ _ _ (152, [some (.ref 95), some (.int 0), some (.int 45), some (.int ((nI k) + 1)), some (.int 45), some (.int 1)], [.int zXf1], (SS b true), Xf1, J, 0, 0)
                            refine r_run okX5_readSum 2 (cs := []) (σ' := (154, [some (.ref 95), some (.int 0), some (.int 45), some (.int ((nI k) + 1)), some (.int 45), some (.int 1)], [.int 0], (SS b true), Xf1, J, 0, 0)) rfl trivial ?_
                            refine r_iret okX5_readSum rfl rfl (by decide +kernel) (Nat.le_refl _) (Nat.le_refl _) ?_
                            exact ⟨rfl, rfl, .inl e, hd _ ⟨1, hs⟩, (fr_t hfu (fA_X fXf1)), rfl, oXf1, (FlO_k (by decide) fXf1 gE)⟩
                        · exact absurd h18_1 (by decide)
                  | inr q =>
                    rw [hu] at hr
                    obtain ⟨rfl, gP, gO⟩ := hr
                    have hq1 := uR_l1 hu
                    have hq2 := gP.1
                    show Rj _ _ _ _ _ _ (101, [some (.ref 95), some (.int 1), some (.int 45), some (.int (nI k)), some (.int 45), some (.int 1)], [.int 1], (SS b true), Xu, J, 0, 0)
                    refine r_run okX5_readSum 2 (cs := []) (σ' := (104, [some (.ref 95), some (.int 1), some (.int 45), some (.int (nI k)), some (.int 45), some (.int 1)], [.int 1], (SS b true), Xu, J, 0, 0)) rfl trivial ?_
                    refine r_ifc okX5_readSum rfl (fun (h104_1 : (1 : Int32) = (0 : Int32)) => ?_) (fun (h104_1 : ¬ (1 : Int32) = (0 : Int32)) => ?_)
                    · exact absurd h104_1 (by decide)
                    · refine r_run okX5_readSum 5 (cs := []) (σ' := (10, [some (.ref 95), some (.int 1), some (.int 45), some (.int ((nI k) + 1)), some (.int 45), some (.int 1)], [], (SS b true), Xu, J, 0, 0)) rfl trivial ?_
                      rw [← nI_succ]
                      refine r_weak (L' := [some (.ref 95), some (.int 1), some (.int 45), some (.int (nI (k + 1))), none, none]) ⟨rfl, rfl, rfl, rfl, trivial⟩ ?_
                      refine K q _ hu (Tkn_k (A := 79) (by decide) hfr hTa) gP ?_ (fr_t hfa hfr)
                      rw [show l ++ (acc ++ wC (some 3) ++ q.1) = l ++ acc ++ wC (some 3) ++ q.1 by simp only [List.append_assoc]]
                      exact gO
                · have h87 : (45 : Int32) = (47 : Int32) := Classical.not_not.mp h870
                  exact absurd h87 (by decide)
theorem sm_42_2_79 (γ : GE) {b : Bool} {J : AJ} {T : Nat → Int32} {n N i0 : Nat} {l : Cd} {X0 : AI} {X : AI} {i k : Nat} {acc : Cd} (h : kK T n i = 42) (hT : Tkn T n N X) (hP : PsO T n N X i) (hO : OuO X 79 (l ++ acc)) (hl : (l ++ acc).length + (wC (some 3)).length ≤ i) (hk : k ≤ i) (hf : fr (qX 79) X0 X) (hd : ∀ res, (∃ f, SmT T n f (some 3) i acc res) → Sm T n i0 res) (K : ∀ (q : Cd × Nat) (Y : AI), uR T n (i + 1) = .inr q → Tkn T n N Y → PsO T n N Y q.2 → OuO Y 79 (l ++ (acc ++ q.1 ++ [(4, 0)])) → fr (qX 79) X0 Y → Rj γ mX5_readSum 2 0 0 (fun r S' I' J' => (SS b true) = S' ∧ J = J' ∧ ∃ res, Sm T n i0 res ∧ RsO T n N 79 X0 l res r I') (10, [some (.ref 95), some (.int 1), some (.int 45), some (.int (nI (k + 1))), none, none], [], (SS b true), Y, J, 0, 0)) : Rj γ mX5_readSum 2 0 0 (fun r S' I' J' => (SS b true) = S' ∧ J = J' ∧ ∃ res, Sm T n i0 res ∧ RsO T n N 79 X0 l res r I') (10, [some (.ref 95), some (.int 1), some (.int 45), some (.int (nI k)), none, none], [], (SS b true), X, J, 0, 0) := by
  have hlw : (wC (some 3)).length = 1 := rfl
  have hN := hT.1
  have hiN := hP.1
  have e7 : X 95 7 = 42 := hP.2.2.1.trans h
  have hi : i < N := kK_lt hT hiN (by rw [h]; decide)
  refine r_run okX5_readSum 2 (cs := []) (σ' := (14, [some (.ref 95), some (.int 1), some (.int 45), some (.int (nI k)), none, none], [.int 800, .int (nI k)], (SS b true), X, J, 0, 0)) rfl trivial ?_
  refine r_icmp okX5_readSum rfl (fun (h14 : (800 : Int32) ≤ (nI k)) => ?_) (fun (h14 : ¬ (800 : Int32) ≤ (nI k)) => ?_)
  · exact absurd h14 (nI_ge (b := 800) (by omega) (by decide))
  · refine r_run okX5_readSum 1 (cs := []) (σ' := (18, [some (.ref 95), some (.int 1), some (.int 45), some (.int (nI k)), none, none], [.int 1], (SS b true), X, J, 0, 0)) rfl trivial ?_
    refine r_ifc okX5_readSum rfl (fun (h18 : (1 : Int32) = (0 : Int32)) => ?_) (fun (h18 : ¬ (1 : Int32) = (0 : Int32)) => ?_)
    · exact absurd h18 (by decide)
    · refine r_run okX5_readSum 2 (cs := []) (σ' := (25, [some (.ref 95), some (.int 1), some (.int 45), some (.int (nI k)), none, none], [.int (X 95 7)], (SS b true), X, J, 0, 0)) rfl trivial ?_
      simp only [e7]
      show Rj _ _ _ _ _ _ (25, [some (.ref 95), some (.int 1), some (.int 45), some (.int (nI k)), none, none], [.int 42], (SS b true), X, J, 0, 0)
      refine r_callS okX5_readSum okX5_isReckoning [.int 42] [] rfl rfl rfl kkX5_isReckoning rfl rfl (by decide) (by decide) ⟨Nat.le_refl _, Nat.le_refl _⟩ (Nat.le_of_ble_eq_true rfl) (b_rk42 γ) (fun v1 S1 I1 J1 hp => ?_)
      obtain ⟨rfl, rfl, rfl, rfl⟩ := hp
      show Rj _ _ _ _ _ _ (28, [some (.ref 95), some (.int 1), some (.int 45), some (.int (nI k)), none, none], [.int 1], (SS b true), X, J, 0, 0)
      refine r_ifc okX5_readSum rfl (fun (h28 : (1 : Int32) = (0 : Int32)) => ?_) (fun (h28 : ¬ (1 : Int32) = (0 : Int32)) => ?_)
      · exact absurd h28 (by decide)
      · refine r_run okX5_readSum 5 (cs := []) (σ' := (41, [some (.ref 95), some (.int 1), some (.int 45), some (.int (nI k)), some (.int (X 95 7)), none], [.int 43, .int (X 95 7)], (SS b true), X, J, 0, 0)) rfl trivial ?_
        simp only [e7]
        show Rj _ _ _ _ _ _ (41, [some (.ref 95), some (.int 1), some (.int 45), some (.int (nI k)), some (.int 42), none], [.int 43, .int 42], (SS b true), X, J, 0, 0)
        refine r_icmp okX5_readSum rfl (fun (h41 : (42 : Int32) = (43 : Int32)) => ?_) (fun (h41 : ¬ (42 : Int32) = (43 : Int32)) => ?_)
        · exact absurd h41 (by decide)
        · refine r_run okX5_readSum 2 (cs := []) (σ' := (48, [some (.ref 95), some (.int 1), some (.int 45), some (.int (nI k)), some (.int 42), none], [.int 45, .int 42], (SS b true), X, J, 0, 0)) rfl trivial ?_
          refine r_icmp okX5_readSum rfl (fun (h48 : ¬ (42 : Int32) = (45 : Int32)) => ?_) (fun h480 => ?_)
          · refine r_run okX5_readSum 3 (cs := []) (σ' := (60, [some (.ref 95), some (.int 1), some (.int 45), some (.int (nI k)), some (.int 42), some (.int 0)], [.int 0], (SS b true), X, J, 0, 0)) rfl trivial ?_
            refine r_ifc okX5_readSum rfl (fun (h60 : (0 : Int32) = (0 : Int32)) => ?_) (fun (h60 : ¬ (0 : Int32) = (0 : Int32)) => ?_)
            · refine r_run okX5_readSum 1 (cs := []) (σ' := (80, [some (.ref 95), some (.int 1), some (.int 45), some (.int (nI k)), some (.int 42), some (.int 0)], [.ref 95], (SS b true), X, J, 0, 0)) rfl trivial ?_
              refine r_callV okX5_readSum okX5_advance [] [] 95 rfl rfl rfl kkX5_advance rfl rfl (by decide) rfl rfl rfl (by decide) ⟨Nat.le_refl _, Nat.le_refl _⟩ (Nat.le_of_ble_eq_true rfl) (b_adv79 γ hT hP hi) (fun v1 S1 I1 J1 hp => ?_)
              obtain ⟨rfl, rfl, ⟨fXa, pXa⟩, rfl⟩ := hp
              obtain ⟨Xa, eXa⟩ : ∃ z, z = I1 := ⟨_, rfl⟩
              subst eXa
              have hTa : Tkn T n N Xa := Tkn_k (A := 79) (by decide) (f9_X fXa) hT
              have hOa := OuO_9 (by decide) fXa hO
              have hfa : fr (qX 79) X0 Xa := fr_t hf (f9_X fXa)
              show Rj _ _ _ _ _ _ (83, [some (.ref 95), some (.int 1), some (.int 45), some (.int (nI k)), some (.int 42), some (.int 0)], [], (SS b true), Xa, J, 0, 0)
              refine r_run okX5_readSum 2 (cs := []) (σ' := (87, [some (.ref 95), some (.int 1), some (.int 45), some (.int (nI k)), some (.int 42), some (.int 0)], [.int 47, .int 42], (SS b true), Xa, J, 0, 0)) rfl trivial ?_
              refine r_icmp okX5_readSum rfl (fun (h87 : ¬ (42 : Int32) = (47 : Int32)) => ?_) (fun h870 => ?_)
              · refine r_run okX5_readSum 1 (cs := []) (σ' := (98, [some (.ref 95), some (.int 1), some (.int 45), some (.int (nI k)), some (.int 42), some (.int 0)], [.ref 95], (SS b true), Xa, J, 0, 0)) rfl trivial ?_
                refine r_callV okX5_readSum okX5_readUnit [] [] 95 rfl rfl rfl kkX5_readUnit rfl rfl (by decide) rfl rfl rfl (by decide) ⟨Nat.le_refl _, Nat.le_refl _⟩ (Nat.le_of_ble_eq_true rfl) (b_unit79 γ hTa pXa hOa (by simp only [List.length_append, List.length_cons, List.length_nil] at *; omega)) (fun v1 S1 I1 J1 hp => ?_)
                obtain ⟨rfl, rfl, hfr, hr⟩ := hp
                obtain ⟨Xu, eXu⟩ : ∃ z, z = I1 := ⟨_, rfl⟩
                subst eXu
                cases hu : uR T n (i + 1) with
                | inl e =>
                  rw [hu] at hr
                  obtain ⟨rfl, gF, gE⟩ := hr
                  have hfu : fr (qX 79) X0 Xu := fr_t hfa hfr
                  have hs : SmT T n 1 (some 3) i acc (.inl e) := by unfold SmT; rw [if_neg (by rw [h]; decide), if_pos h]; simp only [hu]
                  show Rj _ _ _ _ _ _ (101, [some (.ref 95), some (.int 1), some (.int 45), some (.int (nI k)), some (.int 42), some (.int 0)], [.int 0], (SS b true), Xu, J, 0, 0)
                  refine r_run okX5_readSum 2 (cs := []) (σ' := (104, [some (.ref 95), some (.int 0), some (.int 45), some (.int (nI k)), some (.int 42), some (.int 0)], [.int 0], (SS b true), Xu, J, 0, 0)) rfl trivial ?_
                  refine r_ifc okX5_readSum rfl (fun (h104 : (0 : Int32) = (0 : Int32)) => ?_) (fun (h104 : ¬ (0 : Int32) = (0 : Int32)) => ?_)
                  · refine r_run okX5_readSum 2 (cs := []) (σ' := (117, [some (.ref 95), some (.int 0), some (.int 45), some (.int (nI k)), some (.int 42), some (.int 0)], [.int 42, .int 42], (SS b true), Xu, J, 0, 0)) rfl trivial ?_
                    refine r_icmp okX5_readSum rfl (fun (h117 : ¬ (42 : Int32) = (42 : Int32)) => ?_) (fun h1170 => ?_)
                    · exact absurd h117 (by decide)
                    · have h117 : (42 : Int32) = (42 : Int32) := Classical.not_not.mp h1170
                      refine r_run okX5_readSum 4 (cs := []) (σ' := (127, [some (.ref 95), some (.int 0), some (.int 45), some (.int (nI k)), some (.int 42), some (.int 0)], [.int 0, .int 42, .ref 79], (SS b true), Xu, J, 0, 0)) rfl trivial ?_
                      refine r_callV okX5_readSum okX6_add [.int 42, .int 0] [] 79 rfl rfl rfl kkX6_add rfl rfl (by decide) rfl rfl rfl (by decide) ⟨Nat.le_refl _, Nat.le_refl _⟩ (Nat.le_of_ble_eq_true rfl) (a_addF79 γ gF 42 0) (fun v1 S1 I1 J1 hp => ?_)
                      obtain ⟨⟨zXf1, rfl⟩, rfl, ⟨fXf1, oXf1⟩, rfl⟩ := hp
                      obtain ⟨Xf1, eXf1⟩ : ∃ z, z = I1 := ⟨_, rfl⟩
                      subst eXf1
                      show Rj _ _ _ _ _ _ (130, [some (.ref 95), some (.int 0), some (.int 45), some (.int (nI k)), some (.int 42), some (.int 0)], [.int zXf1], (SS b true), Xf1, J, 0, 0)
                      refine r_run okX5_readSum 5 (cs := []) (σ' := (14, [some (.ref 95), some (.int 0), some (.int 45), some (.int ((nI k) + 1)), some (.int 42), some (.int 0)], [.int 800, .int ((nI k) + 1)], (SS b true), Xf1, J, 0, 0)) rfl trivial ?_
                      refine r_icmp okX5_readSum rfl (fun (h14_1 : (800 : Int32) ≤ ((nI k) + 1)) => ?_) (fun (h14_1 : ¬ (800 : Int32) ≤ ((nI k) + 1)) => ?_)
                      · refine r_run okX5_readSum 2 (cs := []) (σ' := (140, [some (.ref 95), some (.int 0), some (.int 45), some (.int ((nI k) + 1)), some (.int 42), some (.int 0)], [.int 18, .int 45], (SS b true), Xf1, J, 0, 0)) rfl trivial ?_
                        refine r_icmp okX5_readSum rfl (fun (h140 : (45 : Int32) = (18 : Int32)) => ?_) (fun (h140 : ¬ (45 : Int32) = (18 : Int32)) => ?_)
                        · exact absurd h140 (by decide)
                        · refine r_run okX5_readSum 4 (cs := []) (σ' := (149, [some (.ref 95), some (.int 0), some (.int 45), some (.int ((nI k) + 1)), some (.int 42), some (.int 0)], [.int 0, .int 45, .ref 79], (SS b true), Xf1, J, 0, 0)) rfl trivial ?_
                          refine r_callV okX5_readSum okX6_add [.int 45, .int 0] [] 79 rfl rfl rfl kkX6_add rfl rfl (by decide) rfl rfl rfl (by decide) ⟨Nat.le_refl _, Nat.le_refl _⟩ (Nat.le_of_ble_eq_true rfl) (a_addF79 γ oXf1 45 0) (fun v1 S1 I1 J1 hp => ?_)
                          obtain ⟨⟨zXf2, rfl⟩, rfl, ⟨fXf2, oXf2⟩, rfl⟩ := hp
                          obtain ⟨Xf2, eXf2⟩ : ∃ z, z = I1 := ⟨_, rfl⟩
                          subst eXf2
                          show Rj _ _ _ _ _ _ (152, [some (.ref 95), some (.int 0), some (.int 45), some (.int ((nI k) + 1)), some (.int 42), some (.int 0)], [.int zXf2], (SS b true), Xf2, J, 0, 0)
                          refine r_run okX5_readSum 2 (cs := []) (σ' := (154, [some (.ref 95), some (.int 0), some (.int 45), some (.int ((nI k) + 1)), some (.int 42), some (.int 0)], [.int 0], (SS b true), Xf2, J, 0, 0)) rfl trivial ?_
                          refine r_iret okX5_readSum rfl rfl (by decide +kernel) (Nat.le_refl _) (Nat.le_refl _) ?_
                          exact ⟨rfl, rfl, .inl e, hd _ ⟨1, hs⟩, (fr_t (fr_t hfu (fA_X fXf1)) (fA_X fXf2)), rfl, oXf2, (FlO_k (by decide) fXf2 (FlO_k (by decide) fXf1 gE))⟩
                      · refine r_run okX5_readSum 1 (cs := []) (σ' := (18, [some (.ref 95), some (.int 0), some (.int 45), some (.int ((nI k) + 1)), some (.int 42), some (.int 0)], [.int 0], (SS b true), Xf1, J, 0, 0)) rfl trivial ?_
                        refine r_ifc okX5_readSum rfl (fun (h18_1 : (0 : Int32) = (0 : Int32)) => ?_) (fun (h18_1 : ¬ (0 : Int32) = (0 : Int32)) => ?_)
                        · refine r_run okX5_readSum 2 (cs := []) (σ' := (140, [some (.ref 95), some (.int 0), some (.int 45), some (.int ((nI k) + 1)), some (.int 42), some (.int 0)], [.int 18, .int 45], (SS b true), Xf1, J, 0, 0)) rfl trivial ?_
                          refine r_icmp okX5_readSum rfl (fun (h140_1 : (45 : Int32) = (18 : Int32)) => ?_) (fun (h140_1 : ¬ (45 : Int32) = (18 : Int32)) => ?_)
                          · exact absurd h140_1 (by decide)
                          · refine r_run okX5_readSum 4 (cs := []) (σ' := (149, [some (.ref 95), some (.int 0), some (.int 45), some (.int ((nI k) + 1)), some (.int 42), some (.int 0)], [.int 0, .int 45, .ref 79], (SS b true), Xf1, J, 0, 0)) rfl trivial ?_
                            refine r_callV okX5_readSum okX6_add [.int 45, .int 0] [] 79 rfl rfl rfl kkX6_add rfl rfl (by decide) rfl rfl rfl (by decide) ⟨Nat.le_refl _, Nat.le_refl _⟩ (Nat.le_of_ble_eq_true rfl) (a_addF79 γ oXf1 45 0) (fun v1 S1 I1 J1 hp => ?_)
                            obtain ⟨⟨zXf2, rfl⟩, rfl, ⟨fXf2, oXf2⟩, rfl⟩ := hp
                            obtain ⟨Xf2, eXf2⟩ : ∃ z, z = I1 := ⟨_, rfl⟩
                            subst eXf2
                            show Rj _ _ _ _ _ _ (152, [some (.ref 95), some (.int 0), some (.int 45), some (.int ((nI k) + 1)), some (.int 42), some (.int 0)], [.int zXf2], (SS b true), Xf2, J, 0, 0)
                            refine r_run okX5_readSum 2 (cs := []) (σ' := (154, [some (.ref 95), some (.int 0), some (.int 45), some (.int ((nI k) + 1)), some (.int 42), some (.int 0)], [.int 0], (SS b true), Xf2, J, 0, 0)) rfl trivial ?_
                            refine r_iret okX5_readSum rfl rfl (by decide +kernel) (Nat.le_refl _) (Nat.le_refl _) ?_
                            exact ⟨rfl, rfl, .inl e, hd _ ⟨1, hs⟩, (fr_t (fr_t hfu (fA_X fXf1)) (fA_X fXf2)), rfl, oXf2, (FlO_k (by decide) fXf2 (FlO_k (by decide) fXf1 gE))⟩
                        · exact absurd h18_1 (by decide)
                  · exact absurd h104 (by decide)
                | inr q =>
                  rw [hu] at hr
                  obtain ⟨rfl, gP, gO⟩ := hr
                  have hq1 := uR_l1 hu
                  have hq2 := gP.1
                  show Rj _ _ _ _ _ _ (101, [some (.ref 95), some (.int 1), some (.int 45), some (.int (nI k)), some (.int 42), some (.int 0)], [.int 1], (SS b true), Xu, J, 0, 0)
                  refine r_run okX5_readSum 2 (cs := []) (σ' := (104, [some (.ref 95), some (.int 1), some (.int 45), some (.int (nI k)), some (.int 42), some (.int 0)], [.int 0], (SS b true), Xu, J, 0, 0)) rfl trivial ?_
                  refine r_ifc okX5_readSum rfl (fun (h104_1 : (0 : Int32) = (0 : Int32)) => ?_) (fun (h104_1 : ¬ (0 : Int32) = (0 : Int32)) => ?_)
                  · refine r_run okX5_readSum 2 (cs := []) (σ' := (117, [some (.ref 95), some (.int 1), some (.int 45), some (.int (nI k)), some (.int 42), some (.int 0)], [.int 42, .int 42], (SS b true), Xu, J, 0, 0)) rfl trivial ?_
                    refine r_icmp okX5_readSum rfl (fun (h117_1 : ¬ (42 : Int32) = (42 : Int32)) => ?_) (fun h117_10 => ?_)
                    · exact absurd h117_1 (by decide)
                    · have h117_1 : (42 : Int32) = (42 : Int32) := Classical.not_not.mp h117_10
                      refine r_run okX5_readSum 4 (cs := []) (σ' := (127, [some (.ref 95), some (.int 1), some (.int 45), some (.int (nI k)), some (.int 42), some (.int 0)], [.int 0, .int 42, .ref 79], (SS b true), Xu, J, 0, 0)) rfl trivial ?_
                      refine r_callV okX5_readSum okX6_add [.int 42, .int 0] [] 79 rfl rfl rfl kkX6_add rfl rfl (by decide) rfl rfl rfl (by decide) ⟨Nat.le_refl _, Nat.le_refl _⟩ (Nat.le_of_ble_eq_true rfl) (a_add79 γ gO (by simp only [List.length_append, List.length_cons, List.length_nil] at *; omega) (p := (4, 0)) rfl) (fun v1 S1 I1 J1 hp => ?_)
                      obtain ⟨rfl, rfl, ⟨fXg, oXg⟩, rfl⟩ := hp
                      obtain ⟨Xg, eXg⟩ : ∃ z, z = I1 := ⟨_, rfl⟩
                      subst eXg
                      show Rj _ _ _ _ _ _ (130, [some (.ref 95), some (.int 1), some (.int 45), some (.int (nI k)), some (.int 42), some (.int 0)], [.int 1], (SS b true), Xg, J, 0, 0)
                      refine r_run okX5_readSum 3 (cs := []) (σ' := (10, [some (.ref 95), some (.int 1), some (.int 45), some (.int ((nI k) + 1)), some (.int 42), some (.int 0)], [], (SS b true), Xg, J, 0, 0)) rfl trivial ?_
                      rw [← nI_succ]
                      refine r_weak (L' := [some (.ref 95), some (.int 1), some (.int 45), some (.int (nI (k + 1))), none, none]) ⟨rfl, rfl, rfl, rfl, trivial⟩ ?_
                      refine K q _ hu (Tkn_k (A := 79) (by decide) (fA_X fXg) (Tkn_k (A := 79) (by decide) hfr hTa)) (PsO_k (by decide) fXg gP) ?_ (fr_t (fr_t hfa hfr) (fA_X fXg))
                      rw [show l ++ (acc ++ q.1 ++ [(4, 0)]) = l ++ acc ++ q.1 ++ [(4, 0)] by simp only [List.append_assoc]]
                      exact oXg
                  · exact absurd h104_1 (by decide)
              · have h87 : (42 : Int32) = (47 : Int32) := Classical.not_not.mp h870
                exact absurd h87 (by decide)
            · exact absurd h60 (by decide)
          · have h48 : (42 : Int32) = (45 : Int32) := Classical.not_not.mp h480
            exact absurd h48 (by decide)
theorem sm_47_2_79 (γ : GE) {b : Bool} {J : AJ} {T : Nat → Int32} {n N i0 : Nat} {l : Cd} {X0 : AI} {X : AI} {i k : Nat} {acc : Cd} (h : kK T n i = 47) (hT : Tkn T n N X) (hP : PsO T n N X i) (hO : OuO X 79 (l ++ acc)) (hl : (l ++ acc).length + (wC (some 3)).length ≤ i) (hk : k ≤ i) (hf : fr (qX 79) X0 X) (hd : ∀ res, (∃ f, SmT T n f (some 3) i acc res) → Sm T n i0 res) (K : ∀ (q : Cd × Nat) (Y : AI), dR T n (i + 1) = .inr q → Tkn T n N Y → PsO T n N Y q.2 → OuO Y 79 (l ++ (acc ++ q.1)) → fr (qX 79) X0 Y → Rj γ mX5_readSum 2 0 0 (fun r S' I' J' => (SS b true) = S' ∧ J = J' ∧ ∃ res, Sm T n i0 res ∧ RsO T n N 79 X0 l res r I') (10, [some (.ref 95), some (.int 1), some (.int 45), some (.int (nI (k + 1))), none, none], [], (SS b true), Y, J, 0, 0)) : Rj γ mX5_readSum 2 0 0 (fun r S' I' J' => (SS b true) = S' ∧ J = J' ∧ ∃ res, Sm T n i0 res ∧ RsO T n N 79 X0 l res r I') (10, [some (.ref 95), some (.int 1), some (.int 45), some (.int (nI k)), none, none], [], (SS b true), X, J, 0, 0) := by
  have hlw : (wC (some 3)).length = 1 := rfl
  have hN := hT.1
  have hiN := hP.1
  have e7 : X 95 7 = 47 := hP.2.2.1.trans h
  have hi : i < N := kK_lt hT hiN (by rw [h]; decide)
  refine r_run okX5_readSum 2 (cs := []) (σ' := (14, [some (.ref 95), some (.int 1), some (.int 45), some (.int (nI k)), none, none], [.int 800, .int (nI k)], (SS b true), X, J, 0, 0)) rfl trivial ?_
  refine r_icmp okX5_readSum rfl (fun (h14 : (800 : Int32) ≤ (nI k)) => ?_) (fun (h14 : ¬ (800 : Int32) ≤ (nI k)) => ?_)
  · exact absurd h14 (nI_ge (b := 800) (by omega) (by decide))
  · refine r_run okX5_readSum 1 (cs := []) (σ' := (18, [some (.ref 95), some (.int 1), some (.int 45), some (.int (nI k)), none, none], [.int 1], (SS b true), X, J, 0, 0)) rfl trivial ?_
    refine r_ifc okX5_readSum rfl (fun (h18 : (1 : Int32) = (0 : Int32)) => ?_) (fun (h18 : ¬ (1 : Int32) = (0 : Int32)) => ?_)
    · exact absurd h18 (by decide)
    · refine r_run okX5_readSum 2 (cs := []) (σ' := (25, [some (.ref 95), some (.int 1), some (.int 45), some (.int (nI k)), none, none], [.int (X 95 7)], (SS b true), X, J, 0, 0)) rfl trivial ?_
      simp only [e7]
      show Rj _ _ _ _ _ _ (25, [some (.ref 95), some (.int 1), some (.int 45), some (.int (nI k)), none, none], [.int 47], (SS b true), X, J, 0, 0)
      refine r_callS okX5_readSum okX5_isReckoning [.int 47] [] rfl rfl rfl kkX5_isReckoning rfl rfl (by decide) (by decide) ⟨Nat.le_refl _, Nat.le_refl _⟩ (Nat.le_of_ble_eq_true rfl) (b_rk47 γ) (fun v1 S1 I1 J1 hp => ?_)
      obtain ⟨rfl, rfl, rfl, rfl⟩ := hp
      show Rj _ _ _ _ _ _ (28, [some (.ref 95), some (.int 1), some (.int 45), some (.int (nI k)), none, none], [.int 1], (SS b true), X, J, 0, 0)
      refine r_ifc okX5_readSum rfl (fun (h28 : (1 : Int32) = (0 : Int32)) => ?_) (fun (h28 : ¬ (1 : Int32) = (0 : Int32)) => ?_)
      · exact absurd h28 (by decide)
      · refine r_run okX5_readSum 5 (cs := []) (σ' := (41, [some (.ref 95), some (.int 1), some (.int 45), some (.int (nI k)), some (.int (X 95 7)), none], [.int 43, .int (X 95 7)], (SS b true), X, J, 0, 0)) rfl trivial ?_
        simp only [e7]
        show Rj _ _ _ _ _ _ (41, [some (.ref 95), some (.int 1), some (.int 45), some (.int (nI k)), some (.int 47), none], [.int 43, .int 47], (SS b true), X, J, 0, 0)
        refine r_icmp okX5_readSum rfl (fun (h41 : (47 : Int32) = (43 : Int32)) => ?_) (fun (h41 : ¬ (47 : Int32) = (43 : Int32)) => ?_)
        · exact absurd h41 (by decide)
        · refine r_run okX5_readSum 2 (cs := []) (σ' := (48, [some (.ref 95), some (.int 1), some (.int 45), some (.int (nI k)), some (.int 47), none], [.int 45, .int 47], (SS b true), X, J, 0, 0)) rfl trivial ?_
          refine r_icmp okX5_readSum rfl (fun (h48 : ¬ (47 : Int32) = (45 : Int32)) => ?_) (fun h480 => ?_)
          · refine r_run okX5_readSum 3 (cs := []) (σ' := (60, [some (.ref 95), some (.int 1), some (.int 45), some (.int (nI k)), some (.int 47), some (.int 0)], [.int 0], (SS b true), X, J, 0, 0)) rfl trivial ?_
            refine r_ifc okX5_readSum rfl (fun (h60 : (0 : Int32) = (0 : Int32)) => ?_) (fun (h60 : ¬ (0 : Int32) = (0 : Int32)) => ?_)
            · refine r_run okX5_readSum 1 (cs := []) (σ' := (80, [some (.ref 95), some (.int 1), some (.int 45), some (.int (nI k)), some (.int 47), some (.int 0)], [.ref 95], (SS b true), X, J, 0, 0)) rfl trivial ?_
              refine r_callV okX5_readSum okX5_advance [] [] 95 rfl rfl rfl kkX5_advance rfl rfl (by decide) rfl rfl rfl (by decide) ⟨Nat.le_refl _, Nat.le_refl _⟩ (Nat.le_of_ble_eq_true rfl) (b_adv79 γ hT hP hi) (fun v1 S1 I1 J1 hp => ?_)
              obtain ⟨rfl, rfl, ⟨fXa, pXa⟩, rfl⟩ := hp
              obtain ⟨Xa, eXa⟩ : ∃ z, z = I1 := ⟨_, rfl⟩
              subst eXa
              have hTa : Tkn T n N Xa := Tkn_k (A := 79) (by decide) (f9_X fXa) hT
              have hOa := OuO_9 (by decide) fXa hO
              have hfa : fr (qX 79) X0 Xa := fr_t hf (f9_X fXa)
              show Rj _ _ _ _ _ _ (83, [some (.ref 95), some (.int 1), some (.int 45), some (.int (nI k)), some (.int 47), some (.int 0)], [], (SS b true), Xa, J, 0, 0)
              refine r_run okX5_readSum 2 (cs := []) (σ' := (87, [some (.ref 95), some (.int 1), some (.int 45), some (.int (nI k)), some (.int 47), some (.int 0)], [.int 47, .int 47], (SS b true), Xa, J, 0, 0)) rfl trivial ?_
              refine r_icmp okX5_readSum rfl (fun (h87 : ¬ (47 : Int32) = (47 : Int32)) => ?_) (fun h870 => ?_)
              · exact absurd h87 (by decide)
              · have h87 : (47 : Int32) = (47 : Int32) := Classical.not_not.mp h870
                refine r_run okX5_readSum 1 (cs := []) (σ' := (91, [some (.ref 95), some (.int 1), some (.int 45), some (.int (nI k)), some (.int 47), some (.int 0)], [.ref 95], (SS b true), Xa, J, 0, 0)) rfl trivial ?_
                refine r_callV okX5_readSum okX5_readDivisor [] [] 95 rfl rfl rfl kkX5_readDivisor rfl rfl (by decide) rfl rfl rfl (by decide) ⟨Nat.le_refl _, Nat.le_refl _⟩ (Nat.le_of_ble_eq_true rfl) (b_div79 γ hTa pXa hOa (by simp only [List.length_append, List.length_cons, List.length_nil] at *; omega)) (fun v1 S1 I1 J1 hp => ?_)
                obtain ⟨rfl, rfl, hfr, hr⟩ := hp
                obtain ⟨Xu, eXu⟩ : ∃ z, z = I1 := ⟨_, rfl⟩
                subst eXu
                cases hu : dR T n (i + 1) with
                | inl e =>
                  rw [hu] at hr
                  obtain ⟨rfl, gF, gE⟩ := hr
                  have hfu : fr (qX 79) X0 Xu := fr_t hfa hfr
                  have hs : SmT T n 1 (some 3) i acc (.inl e) := by
                    unfold SmT; rw [if_neg (by rw [h]; decide), if_neg (by rw [h]; decide), if_pos h]; unfold dR at hu
                    split at hu
                    · rename_i z1; rw [if_pos z1]; split at hu
                      · rename_i z2; rw [if_pos z2]; cases hu; rfl
                      · cases hu
                    · rename_i z1; rw [if_neg z1]; cases hu; rfl
                  show Rj _ _ _ _ _ _ (94, [some (.ref 95), some (.int 1), some (.int 45), some (.int (nI k)), some (.int 47), some (.int 0)], [.int 0], (SS b true), Xu, J, 0, 0)
                  refine r_run okX5_readSum 3 (cs := []) (σ' := (104, [some (.ref 95), some (.int 0), some (.int 45), some (.int (nI k)), some (.int 47), some (.int 0)], [.int 0], (SS b true), Xu, J, 0, 0)) rfl trivial ?_
                  refine r_ifc okX5_readSum rfl (fun (h104 : (0 : Int32) = (0 : Int32)) => ?_) (fun (h104 : ¬ (0 : Int32) = (0 : Int32)) => ?_)
                  · refine r_run okX5_readSum 2 (cs := []) (σ' := (117, [some (.ref 95), some (.int 0), some (.int 45), some (.int (nI k)), some (.int 47), some (.int 0)], [.int 42, .int 47], (SS b true), Xu, J, 0, 0)) rfl trivial ?_
                    refine r_icmp okX5_readSum rfl (fun (h117 : ¬ (47 : Int32) = (42 : Int32)) => ?_) (fun h1170 => ?_)
                    · refine r_run okX5_readSum 4 (cs := []) (σ' := (14, [some (.ref 95), some (.int 0), some (.int 45), some (.int ((nI k) + 1)), some (.int 47), some (.int 0)], [.int 800, .int ((nI k) + 1)], (SS b true), Xu, J, 0, 0)) rfl trivial ?_
                      refine r_icmp okX5_readSum rfl (fun (h14_1 : (800 : Int32) ≤ ((nI k) + 1)) => ?_) (fun (h14_1 : ¬ (800 : Int32) ≤ ((nI k) + 1)) => ?_)
                      · refine r_run okX5_readSum 2 (cs := []) (σ' := (140, [some (.ref 95), some (.int 0), some (.int 45), some (.int ((nI k) + 1)), some (.int 47), some (.int 0)], [.int 18, .int 45], (SS b true), Xu, J, 0, 0)) rfl trivial ?_
                        refine r_icmp okX5_readSum rfl (fun (h140 : (45 : Int32) = (18 : Int32)) => ?_) (fun (h140 : ¬ (45 : Int32) = (18 : Int32)) => ?_)
                        · exact absurd h140 (by decide)
                        · refine r_run okX5_readSum 4 (cs := []) (σ' := (149, [some (.ref 95), some (.int 0), some (.int 45), some (.int ((nI k) + 1)), some (.int 47), some (.int 0)], [.int 0, .int 45, .ref 79], (SS b true), Xu, J, 0, 0)) rfl trivial ?_
                          refine r_callV okX5_readSum okX6_add [.int 45, .int 0] [] 79 rfl rfl rfl kkX6_add rfl rfl (by decide) rfl rfl rfl (by decide) ⟨Nat.le_refl _, Nat.le_refl _⟩ (Nat.le_of_ble_eq_true rfl) (a_addF79 γ gF 45 0) (fun v1 S1 I1 J1 hp => ?_)
                          obtain ⟨⟨zXf1, rfl⟩, rfl, ⟨fXf1, oXf1⟩, rfl⟩ := hp
                          obtain ⟨Xf1, eXf1⟩ : ∃ z, z = I1 := ⟨_, rfl⟩
                          subst eXf1
                          show Rj _ _ _ _ _ _ (152, [some (.ref 95), some (.int 0), some (.int 45), some (.int ((nI k) + 1)), some (.int 47), some (.int 0)], [.int zXf1], (SS b true), Xf1, J, 0, 0)
                          refine r_run okX5_readSum 2 (cs := []) (σ' := (154, [some (.ref 95), some (.int 0), some (.int 45), some (.int ((nI k) + 1)), some (.int 47), some (.int 0)], [.int 0], (SS b true), Xf1, J, 0, 0)) rfl trivial ?_
                          refine r_iret okX5_readSum rfl rfl (by decide +kernel) (Nat.le_refl _) (Nat.le_refl _) ?_
                          exact ⟨rfl, rfl, .inl e, hd _ ⟨1, hs⟩, (fr_t hfu (fA_X fXf1)), rfl, oXf1, (FlO_k (by decide) fXf1 gE)⟩
                      · refine r_run okX5_readSum 1 (cs := []) (σ' := (18, [some (.ref 95), some (.int 0), some (.int 45), some (.int ((nI k) + 1)), some (.int 47), some (.int 0)], [.int 0], (SS b true), Xu, J, 0, 0)) rfl trivial ?_
                        refine r_ifc okX5_readSum rfl (fun (h18_1 : (0 : Int32) = (0 : Int32)) => ?_) (fun (h18_1 : ¬ (0 : Int32) = (0 : Int32)) => ?_)
                        · refine r_run okX5_readSum 2 (cs := []) (σ' := (140, [some (.ref 95), some (.int 0), some (.int 45), some (.int ((nI k) + 1)), some (.int 47), some (.int 0)], [.int 18, .int 45], (SS b true), Xu, J, 0, 0)) rfl trivial ?_
                          refine r_icmp okX5_readSum rfl (fun (h140_1 : (45 : Int32) = (18 : Int32)) => ?_) (fun (h140_1 : ¬ (45 : Int32) = (18 : Int32)) => ?_)
                          · exact absurd h140_1 (by decide)
                          · refine r_run okX5_readSum 4 (cs := []) (σ' := (149, [some (.ref 95), some (.int 0), some (.int 45), some (.int ((nI k) + 1)), some (.int 47), some (.int 0)], [.int 0, .int 45, .ref 79], (SS b true), Xu, J, 0, 0)) rfl trivial ?_
                            refine r_callV okX5_readSum okX6_add [.int 45, .int 0] [] 79 rfl rfl rfl kkX6_add rfl rfl (by decide) rfl rfl rfl (by decide) ⟨Nat.le_refl _, Nat.le_refl _⟩ (Nat.le_of_ble_eq_true rfl) (a_addF79 γ gF 45 0) (fun v1 S1 I1 J1 hp => ?_)
                            obtain ⟨⟨zXf1, rfl⟩, rfl, ⟨fXf1, oXf1⟩, rfl⟩ := hp
                            obtain ⟨Xf1, eXf1⟩ : ∃ z, z = I1 := ⟨_, rfl⟩
                            subst eXf1
                            show Rj _ _ _ _ _ _ (152, [some (.ref 95), some (.int 0), some (.int 45), some (.int ((nI k) + 1)), some (.int 47), some (.int 0)], [.int zXf1], (SS b true), Xf1, J, 0, 0)
                            refine r_run okX5_readSum 2 (cs := []) (σ' := (154, [some (.ref 95), some (.int 0), some (.int 45), some (.int ((nI k) + 1)), some (.int 47), some (.int 0)], [.int 0], (SS b true), Xf1, J, 0, 0)) rfl trivial ?_
                            refine r_iret okX5_readSum rfl rfl (by decide +kernel) (Nat.le_refl _) (Nat.le_refl _) ?_
                            exact ⟨rfl, rfl, .inl e, hd _ ⟨1, hs⟩, (fr_t hfu (fA_X fXf1)), rfl, oXf1, (FlO_k (by decide) fXf1 gE)⟩
                        · exact absurd h18_1 (by decide)
                    · have h117 : (47 : Int32) = (42 : Int32) := Classical.not_not.mp h1170
                      exact absurd h117 (by decide)
                  · exact absurd h104 (by decide)
                | inr q =>
                  rw [hu] at hr
                  obtain ⟨rfl, gP, gO⟩ := hr
                  have hq1 := dR_l1 hu
                  have hq2 := gP.1
                  show Rj _ _ _ _ _ _ (94, [some (.ref 95), some (.int 1), some (.int 45), some (.int (nI k)), some (.int 47), some (.int 0)], [.int 1], (SS b true), Xu, J, 0, 0)
                  refine r_run okX5_readSum 3 (cs := []) (σ' := (104, [some (.ref 95), some (.int 1), some (.int 45), some (.int (nI k)), some (.int 47), some (.int 0)], [.int 0], (SS b true), Xu, J, 0, 0)) rfl trivial ?_
                  refine r_ifc okX5_readSum rfl (fun (h104_1 : (0 : Int32) = (0 : Int32)) => ?_) (fun (h104_1 : ¬ (0 : Int32) = (0 : Int32)) => ?_)
                  · refine r_run okX5_readSum 2 (cs := []) (σ' := (117, [some (.ref 95), some (.int 1), some (.int 45), some (.int (nI k)), some (.int 47), some (.int 0)], [.int 42, .int 47], (SS b true), Xu, J, 0, 0)) rfl trivial ?_
                    refine r_icmp okX5_readSum rfl (fun (h117_1 : ¬ (47 : Int32) = (42 : Int32)) => ?_) (fun h117_10 => ?_)
                    · refine r_run okX5_readSum 2 (cs := []) (σ' := (10, [some (.ref 95), some (.int 1), some (.int 45), some (.int ((nI k) + 1)), some (.int 47), some (.int 0)], [], (SS b true), Xu, J, 0, 0)) rfl trivial ?_
                      rw [← nI_succ]
                      refine r_weak (L' := [some (.ref 95), some (.int 1), some (.int 45), some (.int (nI (k + 1))), none, none]) ⟨rfl, rfl, rfl, rfl, trivial⟩ ?_
                      refine K q _ hu (Tkn_k (A := 79) (by decide) hfr hTa) gP ?_ (fr_t hfa hfr)
                      rw [show l ++ (acc ++ q.1) = l ++ acc ++ q.1 by simp only [List.append_assoc]]
                      exact gO
                    · have h117_1 : (47 : Int32) = (42 : Int32) := Classical.not_not.mp h117_10
                      exact absurd h117_1 (by decide)
                  · exact absurd h104_1 (by decide)
            · exact absurd h60 (by decide)
          · have h48 : (47 : Int32) = (45 : Int32) := Classical.not_not.mp h480
            exact absurd h48 (by decide)
theorem lp_sm79 (γ : GE) {b : Bool} {J : AJ} {T : Nat → Int32} {n N i0 : Nat} {l : Cd} {X0 : AI} : ∀ (j i k : Nat) (W : Option Int32) (acc : Cd) (X : AI), (W = none ∨ W = some 2 ∨ W = some 3) → N ≤ i + j → Tkn T n N X → PsO T n N X i → OuO X 79 (l ++ acc) → (l ++ acc).length + (wC W).length ≤ i → k ≤ i → fr (qX 79) X0 X → (∀ res, (∃ f, SmT T n f W i acc res) → Sm T n i0 res) → Rj γ mX5_readSum 2 0 0 (fun r S' I' J' => (SS b true) = S' ∧ J = J' ∧ ∃ res, Sm T n i0 res ∧ RsO T n N 79 X0 l res r I') (10, [some (.ref 95), some (.int 1), some (.int (wtk W)), some (.int (nI k)), none, none], [], (SS b true), X, J, 0, 0) := by
  intro j
  induction j with
  | zero =>
    intro i k W acc X hW hj hT hP hO hl hk hf hd
    have e : kK T n i = 17 := by rw [show i = N by have := hP.1; omega]; exact hT.2.1
    rcases hW with rfl | rfl | rfl
    · exact sm_end0_79 γ (by rw [e]; decide) (by rw [e]; decide) (by rw [e]; decide) (by rw [e]; decide) hT hP hO hl hk hf hd
    · exact sm_end1_79 γ (by rw [e]; decide) (by rw [e]; decide) (by rw [e]; decide) (by rw [e]; decide) hT hP hO hl hk hf hd
    · exact sm_end2_79 γ (by rw [e]; decide) (by rw [e]; decide) (by rw [e]; decide) (by rw [e]; decide) hT hP hO hl hk hf hd
  | succ j ih =>
    intro i k W acc X hW hj hT hP hO hl hk hf hd
    by_cases h43 : kK T n i = 43
    · rcases hW with rfl | rfl | rfl
      · refine sm_43_0_79 γ h43 hT hP hO hl hk hf hd (fun q Y hu h1 h2 h3 h4 => ?_)
        have hq := uR_l1 hu
        have hlw : (wC none).length = 0 := rfl
        have hlw2 : (wC (some 2)).length = 1 := rfl
        refine ih q.2 (k + 1) (some 2) _ Y (Or.inr (Or.inl rfl)) (by omega) h1 h2 h3 (by simp only [List.length_append, List.length_cons, List.length_nil] at *; omega) (by omega) h4 (fun res hr => hd res ?_)
        obtain ⟨f, hg⟩ := hr
        exact ⟨f + 1, by unfold SmT; rw [if_pos (Or.inl h43)]; simp only [hu]; rw [if_pos h43]; exact hg⟩
      · refine sm_43_1_79 γ h43 hT hP hO hl hk hf hd (fun q Y hu h1 h2 h3 h4 => ?_)
        have hq := uR_l1 hu
        have hlw : (wC (some 2)).length = 1 := rfl
        have hlw2 : (wC (some 2)).length = 1 := rfl
        refine ih q.2 (k + 1) (some 2) _ Y (Or.inr (Or.inl rfl)) (by omega) h1 h2 h3 (by simp only [List.length_append, List.length_cons, List.length_nil] at *; omega) (by omega) h4 (fun res hr => hd res ?_)
        obtain ⟨f, hg⟩ := hr
        exact ⟨f + 1, by unfold SmT; rw [if_pos (Or.inl h43)]; simp only [hu]; rw [if_pos h43]; exact hg⟩
      · refine sm_43_2_79 γ h43 hT hP hO hl hk hf hd (fun q Y hu h1 h2 h3 h4 => ?_)
        have hq := uR_l1 hu
        have hlw : (wC (some 3)).length = 1 := rfl
        have hlw2 : (wC (some 2)).length = 1 := rfl
        refine ih q.2 (k + 1) (some 2) _ Y (Or.inr (Or.inl rfl)) (by omega) h1 h2 h3 (by simp only [List.length_append, List.length_cons, List.length_nil] at *; omega) (by omega) h4 (fun res hr => hd res ?_)
        obtain ⟨f, hg⟩ := hr
        exact ⟨f + 1, by unfold SmT; rw [if_pos (Or.inl h43)]; simp only [hu]; rw [if_pos h43]; exact hg⟩
    by_cases h45 : kK T n i = 45
    · rcases hW with rfl | rfl | rfl
      · refine sm_45_0_79 γ h45 hT hP hO hl hk hf hd (fun q Y hu h1 h2 h3 h4 => ?_)
        have hq := uR_l1 hu
        have hlw : (wC none).length = 0 := rfl
        have hlw2 : (wC (some 3)).length = 1 := rfl
        refine ih q.2 (k + 1) (some 3) _ Y (Or.inr (Or.inr rfl)) (by omega) h1 h2 h3 (by simp only [List.length_append, List.length_cons, List.length_nil] at *; omega) (by omega) h4 (fun res hr => hd res ?_)
        obtain ⟨f, hg⟩ := hr
        exact ⟨f + 1, by unfold SmT; rw [if_pos (Or.inr h45)]; simp only [hu]; rw [if_neg h43]; exact hg⟩
      · refine sm_45_1_79 γ h45 hT hP hO hl hk hf hd (fun q Y hu h1 h2 h3 h4 => ?_)
        have hq := uR_l1 hu
        have hlw : (wC (some 2)).length = 1 := rfl
        have hlw2 : (wC (some 3)).length = 1 := rfl
        refine ih q.2 (k + 1) (some 3) _ Y (Or.inr (Or.inr rfl)) (by omega) h1 h2 h3 (by simp only [List.length_append, List.length_cons, List.length_nil] at *; omega) (by omega) h4 (fun res hr => hd res ?_)
        obtain ⟨f, hg⟩ := hr
        exact ⟨f + 1, by unfold SmT; rw [if_pos (Or.inr h45)]; simp only [hu]; rw [if_neg h43]; exact hg⟩
      · refine sm_45_2_79 γ h45 hT hP hO hl hk hf hd (fun q Y hu h1 h2 h3 h4 => ?_)
        have hq := uR_l1 hu
        have hlw : (wC (some 3)).length = 1 := rfl
        have hlw2 : (wC (some 3)).length = 1 := rfl
        refine ih q.2 (k + 1) (some 3) _ Y (Or.inr (Or.inr rfl)) (by omega) h1 h2 h3 (by simp only [List.length_append, List.length_cons, List.length_nil] at *; omega) (by omega) h4 (fun res hr => hd res ?_)
        obtain ⟨f, hg⟩ := hr
        exact ⟨f + 1, by unfold SmT; rw [if_pos (Or.inr h45)]; simp only [hu]; rw [if_neg h43]; exact hg⟩
    by_cases h42 : kK T n i = 42
    · rcases hW with rfl | rfl | rfl
      · refine sm_42_0_79 γ h42 hT hP hO hl hk hf hd (fun q Y hu h1 h2 h3 h4 => ?_)
        have hq := uR_l1 hu
        have hlw : (wC none).length = 0 := rfl
        have hlw2 : (wC none).length = 0 := rfl
        refine ih q.2 (k + 1) none _ Y (Or.inl rfl) (by omega) h1 h2 h3 (by simp only [List.length_append, List.length_cons, List.length_nil] at *; omega) (by omega) h4 (fun res hr => hd res ?_)
        obtain ⟨f, hg⟩ := hr
        exact ⟨f + 1, by unfold SmT; rw [if_neg (fun z => z.elim h43 h45), if_pos h42]; simp only [hu]; exact hg⟩
      · refine sm_42_1_79 γ h42 hT hP hO hl hk hf hd (fun q Y hu h1 h2 h3 h4 => ?_)
        have hq := uR_l1 hu
        have hlw : (wC (some 2)).length = 1 := rfl
        have hlw2 : (wC (some 2)).length = 1 := rfl
        refine ih q.2 (k + 1) (some 2) _ Y (Or.inr (Or.inl rfl)) (by omega) h1 h2 h3 (by simp only [List.length_append, List.length_cons, List.length_nil] at *; omega) (by omega) h4 (fun res hr => hd res ?_)
        obtain ⟨f, hg⟩ := hr
        exact ⟨f + 1, by unfold SmT; rw [if_neg (fun z => z.elim h43 h45), if_pos h42]; simp only [hu]; exact hg⟩
      · refine sm_42_2_79 γ h42 hT hP hO hl hk hf hd (fun q Y hu h1 h2 h3 h4 => ?_)
        have hq := uR_l1 hu
        have hlw : (wC (some 3)).length = 1 := rfl
        have hlw2 : (wC (some 3)).length = 1 := rfl
        refine ih q.2 (k + 1) (some 3) _ Y (Or.inr (Or.inr rfl)) (by omega) h1 h2 h3 (by simp only [List.length_append, List.length_cons, List.length_nil] at *; omega) (by omega) h4 (fun res hr => hd res ?_)
        obtain ⟨f, hg⟩ := hr
        exact ⟨f + 1, by unfold SmT; rw [if_neg (fun z => z.elim h43 h45), if_pos h42]; simp only [hu]; exact hg⟩
    by_cases h47 : kK T n i = 47
    · rcases hW with rfl | rfl | rfl
      · refine sm_47_0_79 γ h47 hT hP hO hl hk hf hd (fun q Y hu h1 h2 h3 h4 => ?_)
        have hq := dR_l1 hu
        have hlw : (wC none).length = 0 := rfl
        have hlw2 : (wC none).length = 0 := rfl
        refine ih q.2 (k + 1) none _ Y (Or.inl rfl) (by omega) h1 h2 h3 (by simp only [List.length_append, List.length_cons, List.length_nil] at *; omega) (by omega) h4 (fun res hr => hd res ?_)
        obtain ⟨f, hg⟩ := hr
        exact ⟨f + 1, by unfold SmT; rw [if_neg (fun z => z.elim h43 h45), if_neg h42, if_pos h47, if_pos hq.2.2.1, if_neg hq.2.2.2.1]; rw [hq.2.2.2.2] at hg; rw [show i + 2 = q.2 by omega]; exact hg⟩
      · refine sm_47_1_79 γ h47 hT hP hO hl hk hf hd (fun q Y hu h1 h2 h3 h4 => ?_)
        have hq := dR_l1 hu
        have hlw : (wC (some 2)).length = 1 := rfl
        have hlw2 : (wC (some 2)).length = 1 := rfl
        refine ih q.2 (k + 1) (some 2) _ Y (Or.inr (Or.inl rfl)) (by omega) h1 h2 h3 (by simp only [List.length_append, List.length_cons, List.length_nil] at *; omega) (by omega) h4 (fun res hr => hd res ?_)
        obtain ⟨f, hg⟩ := hr
        exact ⟨f + 1, by unfold SmT; rw [if_neg (fun z => z.elim h43 h45), if_neg h42, if_pos h47, if_pos hq.2.2.1, if_neg hq.2.2.2.1]; rw [hq.2.2.2.2] at hg; rw [show i + 2 = q.2 by omega]; exact hg⟩
      · refine sm_47_2_79 γ h47 hT hP hO hl hk hf hd (fun q Y hu h1 h2 h3 h4 => ?_)
        have hq := dR_l1 hu
        have hlw : (wC (some 3)).length = 1 := rfl
        have hlw2 : (wC (some 3)).length = 1 := rfl
        refine ih q.2 (k + 1) (some 3) _ Y (Or.inr (Or.inr rfl)) (by omega) h1 h2 h3 (by simp only [List.length_append, List.length_cons, List.length_nil] at *; omega) (by omega) h4 (fun res hr => hd res ?_)
        obtain ⟨f, hg⟩ := hr
        exact ⟨f + 1, by unfold SmT; rw [if_neg (fun z => z.elim h43 h45), if_neg h42, if_pos h47, if_pos hq.2.2.1, if_neg hq.2.2.2.1]; rw [hq.2.2.2.2] at hg; rw [show i + 2 = q.2 by omega]; exact hg⟩
    rcases hW with rfl | rfl | rfl
    · exact sm_end0_79 γ h43 h45 h42 h47 hT hP hO hl hk hf hd
    · exact sm_end1_79 γ h43 h45 h42 h47 hT hP hO hl hk hf hd
    · exact sm_end2_79 γ h43 h45 h42 h47 hT hP hO hl hk hf hd
theorem b_sum79 (γ : GE) {b : Bool} {J : AJ} {T : Nat → Int32} {n N i0 : Nat} {l : Cd} {X0 : AI} (hT : Tkn T n N X0) (hP : PsO T n N X0 i0) (hO : OuO X0 79 l) (hl : l.length ≤ i0) : Ct γ mX5_readSum 2 0 0 [.ref 95] (SS b true) X0 J (fun r S' I' J' => (SS b true) = S' ∧ J = J' ∧ ∃ res, Sm T n i0 res ∧ RsO T n N 79 X0 l res r I') := by
  refine ct_of okX5_readSum (L := [some (.ref 95), none, none, none, none, none]) (Nat.le_of_ble_eq_true rfl) rfl ?_
  refine r_run okX5_readSum 1 (cs := []) (σ' := (1, [some (.ref 95), none, none, none, none, none], [.ref 95], (SS b true), X0, J, 0, 0)) rfl trivial ?_
  refine r_callV okX5_readSum okX5_readUnit [] [] 95 rfl rfl rfl kkX5_readUnit rfl rfl (by decide) rfl rfl rfl (by decide) ⟨Nat.le_refl _, Nat.le_refl _⟩ (Nat.le_of_ble_eq_true rfl) (b_unit79 γ hT hP hO hl) (fun v1 S1 I1 J1 hp => ?_)
  obtain ⟨rfl, rfl, hfr, hr⟩ := hp
  obtain ⟨Xu, eXu⟩ : ∃ z, z = I1 := ⟨_, rfl⟩
  subst eXu
  cases hu : uR T n i0 with
  | inl e =>
    rw [hu] at hr
    obtain ⟨rfl, gF, gE⟩ := hr
    have hs : Sm T n i0 (.inl e) := by unfold Sm; rw [hu]
    show Rj _ _ _ _ _ _ (4, [some (.ref 95), none, none, none, none, none], [.int 0], (SS b true), Xu, J, 0, 0)
    refine r_run okX5_readSum 7 (cs := []) (σ' := (14, [some (.ref 95), some (.int 0), some (.int 18), some (.int 0), none, none], [.int 800, .int 0], (SS b true), Xu, J, 0, 0)) rfl trivial ?_
    refine r_icmp okX5_readSum rfl (fun (h14 : (800 : Int32) ≤ (0 : Int32)) => ?_) (fun (h14 : ¬ (800 : Int32) ≤ (0 : Int32)) => ?_)
    · exact absurd h14 (by decide)
    · refine r_run okX5_readSum 1 (cs := []) (σ' := (18, [some (.ref 95), some (.int 0), some (.int 18), some (.int 0), none, none], [.int 0], (SS b true), Xu, J, 0, 0)) rfl trivial ?_
      refine r_ifc okX5_readSum rfl (fun (h18 : (0 : Int32) = (0 : Int32)) => ?_) (fun (h18 : ¬ (0 : Int32) = (0 : Int32)) => ?_)
      · refine r_run okX5_readSum 2 (cs := []) (σ' := (140, [some (.ref 95), some (.int 0), some (.int 18), some (.int 0), none, none], [.int 18, .int 18], (SS b true), Xu, J, 0, 0)) rfl trivial ?_
        refine r_icmp okX5_readSum rfl (fun (h140 : (18 : Int32) = (18 : Int32)) => ?_) (fun (h140 : ¬ (18 : Int32) = (18 : Int32)) => ?_)
        · refine r_run okX5_readSum 1 (cs := []) (σ' := (154, [some (.ref 95), some (.int 0), some (.int 18), some (.int 0), none, none], [.int 0], (SS b true), Xu, J, 0, 0)) rfl trivial ?_
          refine r_iret okX5_readSum rfl rfl (by decide +kernel) (Nat.le_refl _) (Nat.le_refl _) ?_
          exact ⟨rfl, rfl, .inl e, hs, hfr, rfl, gF, gE⟩
        · exact absurd h140 (by decide)
      · exact absurd h18 (by decide)
  | inr q =>
    rw [hu] at hr
    obtain ⟨rfl, gP, gO⟩ := hr
    have hq := uR_l1 hu
    show Rj _ _ _ _ _ _ (4, [some (.ref 95), none, none, none, none, none], [.int 1], (SS b true), Xu, J, 0, 0)
    refine r_run okX5_readSum 5 (cs := []) (σ' := (10, [some (.ref 95), some (.int 1), some (.int 18), some (.int 0), none, none], [], (SS b true), Xu, J, 0, 0)) rfl trivial ?_
    have z := lp_sm79 γ (b := b) (J := J) (T := T) (n := n) (N := N) (i0 := i0) (l := l) (X0 := X0) N q.2 0 none q.1 Xu (Or.inl rfl) (by omega) (Tkn_k (A := 79) (by decide) hfr hT) gP gO (by simp only [List.length_append, show (wC none).length = 0 from rfl] at *; omega) (by omega) hfr (fun res hr => by unfold Sm; rw [hu]; exact hr)
    rw [nI_0] at z
    exact z
theorem sm_end0_87 (γ : GE) {b : Bool} {J : AJ} {T : Nat → Int32} {n N i0 : Nat} {l : Cd} {X0 : AI} {X : AI} {i k : Nat} {acc : Cd} (h1 : ¬ kK T n i = 43) (h2 : ¬ kK T n i = 45) (h3 : ¬ kK T n i = 42) (h4 : ¬ kK T n i = 47) (hT : Tkn T n N X) (hP : PsO T n N X i) (hO : OuO X 87 (l ++ acc)) (hl : (l ++ acc).length + (wC none).length ≤ i) (hk : k ≤ i) (hf : fr (qX 87) X0 X) (hd : ∀ res, (∃ f, SmT T n f none i acc res) → Sm T n i0 res) : Rj γ mX5_readSum 2 0 0 (fun r S' I' J' => (SS b false) = S' ∧ J = J' ∧ ∃ res, Sm T n i0 res ∧ RsO T n N 87 X0 l res r I') (10, [some (.ref 95), some (.int 1), some (.int 18), some (.int (nI k)), none, none], [], (SS b false), X, J, 0, 0) := by
  have hlw : (wC none).length = 0 := rfl
  have hN := hT.1
  have hiN := hP.1
  have e7 := hP.2.2.1
  have k800 : k ≤ 800 := by omega
  refine r_run okX5_readSum 2 (cs := []) (σ' := (14, [some (.ref 95), some (.int 1), some (.int 18), some (.int (nI k)), none, none], [.int 800, .int (nI k)], (SS b false), X, J, 0, 0)) rfl trivial ?_
  refine r_icmp okX5_readSum rfl (fun (h14 : (800 : Int32) ≤ (nI k)) => ?_) (fun (h14 : ¬ (800 : Int32) ≤ (nI k)) => ?_)
  · refine r_run okX5_readSum 2 (cs := []) (σ' := (140, [some (.ref 95), some (.int 1), some (.int 18), some (.int (nI k)), none, none], [.int 18, .int 18], (SS b false), X, J, 0, 0)) rfl trivial ?_
    refine r_icmp okX5_readSum rfl (fun (h140 : (18 : Int32) = (18 : Int32)) => ?_) (fun (h140 : ¬ (18 : Int32) = (18 : Int32)) => ?_)
    · refine r_run okX5_readSum 1 (cs := []) (σ' := (154, [some (.ref 95), some (.int 1), some (.int 18), some (.int (nI k)), none, none], [.int 1], (SS b false), X, J, 0, 0)) rfl trivial ?_
      refine r_iret okX5_readSum rfl rfl (by decide +kernel) (Nat.le_refl _) (Nat.le_refl _) ?_
      have hs : SmT T n 1 none i acc (.inr (acc ++ wC none, i)) := by
        unfold SmT; rw [if_neg (fun z => z.elim h1 h2), if_neg h3, if_neg h4]
      exact ⟨rfl, rfl, _, hd _ ⟨1, hs⟩, hf, rfl, hP, by show OuO X 87 (l ++ (acc ++ [])); rw [app_n]; exact hO⟩
    · exact absurd h140 (by decide)
  · refine r_run okX5_readSum 1 (cs := []) (σ' := (18, [some (.ref 95), some (.int 1), some (.int 18), some (.int (nI k)), none, none], [.int 1], (SS b false), X, J, 0, 0)) rfl trivial ?_
    refine r_ifc okX5_readSum rfl (fun (h18 : (1 : Int32) = (0 : Int32)) => ?_) (fun (h18 : ¬ (1 : Int32) = (0 : Int32)) => ?_)
    · exact absurd h18 (by decide)
    · refine r_run okX5_readSum 2 (cs := []) (σ' := (25, [some (.ref 95), some (.int 1), some (.int 18), some (.int (nI k)), none, none], [.int (X 95 7)], (SS b false), X, J, 0, 0)) rfl trivial ?_
      simp only [e7]
      show Rj _ _ _ _ _ _ (25, [some (.ref 95), some (.int 1), some (.int 18), some (.int (nI k)), none, none], [.int (kK T n i)], (SS b false), X, J, 0, 0)
      refine r_callS okX5_readSum okX5_isReckoning [.int (kK T n i)] [] rfl rfl rfl kkX5_isReckoning rfl rfl (by decide) (by decide) ⟨Nat.le_refl _, Nat.le_refl _⟩ (Nat.le_of_ble_eq_true rfl) (b_rkn γ h1 h2 h3 h4) (fun v1 S1 I1 J1 hp => ?_)
      obtain ⟨rfl, rfl, rfl, rfl⟩ := hp
      show Rj _ _ _ _ _ _ (28, [some (.ref 95), some (.int 1), some (.int 18), some (.int (nI k)), none, none], [.int 0], (SS b false), X, J, 0, 0)
      refine r_ifc okX5_readSum rfl (fun (h28 : (0 : Int32) = (0 : Int32)) => ?_) (fun (h28 : ¬ (0 : Int32) = (0 : Int32)) => ?_)
      · refine r_run okX5_readSum 2 (cs := []) (σ' := (140, [some (.ref 95), some (.int 1), some (.int 18), some (.int (nI k)), none, none], [.int 18, .int 18], (SS b false), X, J, 0, 0)) rfl trivial ?_
        refine r_icmp okX5_readSum rfl (fun (h140_1 : (18 : Int32) = (18 : Int32)) => ?_) (fun (h140_1 : ¬ (18 : Int32) = (18 : Int32)) => ?_)
        · refine r_run okX5_readSum 1 (cs := []) (σ' := (154, [some (.ref 95), some (.int 1), some (.int 18), some (.int (nI k)), none, none], [.int 1], (SS b false), X, J, 0, 0)) rfl trivial ?_
          refine r_iret okX5_readSum rfl rfl (by decide +kernel) (Nat.le_refl _) (Nat.le_refl _) ?_
          have hs : SmT T n 1 none i acc (.inr (acc ++ wC none, i)) := by
            unfold SmT; rw [if_neg (fun z => z.elim h1 h2), if_neg h3, if_neg h4]
          exact ⟨rfl, rfl, _, hd _ ⟨1, hs⟩, hf, rfl, hP, by show OuO X 87 (l ++ (acc ++ [])); rw [app_n]; exact hO⟩
        · exact absurd h140_1 (by decide)
      · exact absurd h28 (by decide)
theorem sm_43_0_87 (γ : GE) {b : Bool} {J : AJ} {T : Nat → Int32} {n N i0 : Nat} {l : Cd} {X0 : AI} {X : AI} {i k : Nat} {acc : Cd} (h : kK T n i = 43) (hT : Tkn T n N X) (hP : PsO T n N X i) (hO : OuO X 87 (l ++ acc)) (hl : (l ++ acc).length + (wC none).length ≤ i) (hk : k ≤ i) (hf : fr (qX 87) X0 X) (hd : ∀ res, (∃ f, SmT T n f none i acc res) → Sm T n i0 res) (K : ∀ (q : Cd × Nat) (Y : AI), uR T n (i + 1) = .inr q → Tkn T n N Y → PsO T n N Y q.2 → OuO Y 87 (l ++ (acc ++ wC none ++ q.1)) → fr (qX 87) X0 Y → Rj γ mX5_readSum 2 0 0 (fun r S' I' J' => (SS b false) = S' ∧ J = J' ∧ ∃ res, Sm T n i0 res ∧ RsO T n N 87 X0 l res r I') (10, [some (.ref 95), some (.int 1), some (.int 43), some (.int (nI (k + 1))), none, none], [], (SS b false), Y, J, 0, 0)) : Rj γ mX5_readSum 2 0 0 (fun r S' I' J' => (SS b false) = S' ∧ J = J' ∧ ∃ res, Sm T n i0 res ∧ RsO T n N 87 X0 l res r I') (10, [some (.ref 95), some (.int 1), some (.int 18), some (.int (nI k)), none, none], [], (SS b false), X, J, 0, 0) := by
  have hlw : (wC none).length = 0 := rfl
  have hN := hT.1
  have hiN := hP.1
  have e7 : X 95 7 = 43 := hP.2.2.1.trans h
  have hi : i < N := kK_lt hT hiN (by rw [h]; decide)
  refine r_run okX5_readSum 2 (cs := []) (σ' := (14, [some (.ref 95), some (.int 1), some (.int 18), some (.int (nI k)), none, none], [.int 800, .int (nI k)], (SS b false), X, J, 0, 0)) rfl trivial ?_
  refine r_icmp okX5_readSum rfl (fun (h14 : (800 : Int32) ≤ (nI k)) => ?_) (fun (h14 : ¬ (800 : Int32) ≤ (nI k)) => ?_)
  · exact absurd h14 (nI_ge (b := 800) (by omega) (by decide))
  · refine r_run okX5_readSum 1 (cs := []) (σ' := (18, [some (.ref 95), some (.int 1), some (.int 18), some (.int (nI k)), none, none], [.int 1], (SS b false), X, J, 0, 0)) rfl trivial ?_
    refine r_ifc okX5_readSum rfl (fun (h18 : (1 : Int32) = (0 : Int32)) => ?_) (fun (h18 : ¬ (1 : Int32) = (0 : Int32)) => ?_)
    · exact absurd h18 (by decide)
    · refine r_run okX5_readSum 2 (cs := []) (σ' := (25, [some (.ref 95), some (.int 1), some (.int 18), some (.int (nI k)), none, none], [.int (X 95 7)], (SS b false), X, J, 0, 0)) rfl trivial ?_
      simp only [e7]
      show Rj _ _ _ _ _ _ (25, [some (.ref 95), some (.int 1), some (.int 18), some (.int (nI k)), none, none], [.int 43], (SS b false), X, J, 0, 0)
      refine r_callS okX5_readSum okX5_isReckoning [.int 43] [] rfl rfl rfl kkX5_isReckoning rfl rfl (by decide) (by decide) ⟨Nat.le_refl _, Nat.le_refl _⟩ (Nat.le_of_ble_eq_true rfl) (b_rk43 γ) (fun v1 S1 I1 J1 hp => ?_)
      obtain ⟨rfl, rfl, rfl, rfl⟩ := hp
      show Rj _ _ _ _ _ _ (28, [some (.ref 95), some (.int 1), some (.int 18), some (.int (nI k)), none, none], [.int 1], (SS b false), X, J, 0, 0)
      refine r_ifc okX5_readSum rfl (fun (h28 : (1 : Int32) = (0 : Int32)) => ?_) (fun (h28 : ¬ (1 : Int32) = (0 : Int32)) => ?_)
      · exact absurd h28 (by decide)
      · refine r_run okX5_readSum 5 (cs := []) (σ' := (41, [some (.ref 95), some (.int 1), some (.int 18), some (.int (nI k)), some (.int (X 95 7)), none], [.int 43, .int (X 95 7)], (SS b false), X, J, 0, 0)) rfl trivial ?_
        simp only [e7]
        show Rj _ _ _ _ _ _ (41, [some (.ref 95), some (.int 1), some (.int 18), some (.int (nI k)), some (.int 43), none], [.int 43, .int 43], (SS b false), X, J, 0, 0)
        refine r_icmp okX5_readSum rfl (fun (h41 : (43 : Int32) = (43 : Int32)) => ?_) (fun (h41 : ¬ (43 : Int32) = (43 : Int32)) => ?_)
        · refine r_run okX5_readSum 4 (cs := []) (σ' := (60, [some (.ref 95), some (.int 1), some (.int 18), some (.int (nI k)), some (.int 43), some (.int 1)], [.int 1], (SS b false), X, J, 0, 0)) rfl trivial ?_
          refine r_ifc okX5_readSum rfl (fun (h60 : (1 : Int32) = (0 : Int32)) => ?_) (fun (h60 : ¬ (1 : Int32) = (0 : Int32)) => ?_)
          · exact absurd h60 (by decide)
          · refine r_run okX5_readSum 2 (cs := []) (σ' := (66, [some (.ref 95), some (.int 1), some (.int 18), some (.int (nI k)), some (.int 43), some (.int 1)], [.int 18, .int 18], (SS b false), X, J, 0, 0)) rfl trivial ?_
            refine r_icmp okX5_readSum rfl (fun (h66 : (18 : Int32) = (18 : Int32)) => ?_) (fun (h66 : ¬ (18 : Int32) = (18 : Int32)) => ?_)
            · refine r_run okX5_readSum 1 (cs := []) (σ' := (80, [some (.ref 95), some (.int 1), some (.int 18), some (.int (nI k)), some (.int 43), some (.int 1)], [.ref 95], (SS b false), X, J, 0, 0)) rfl trivial ?_
              refine r_callV okX5_readSum okX5_advance [] [] 95 rfl rfl rfl kkX5_advance rfl rfl (by decide) rfl rfl rfl (by decide) ⟨Nat.le_refl _, Nat.le_refl _⟩ (Nat.le_of_ble_eq_true rfl) (b_adv87 γ hT hP hi) (fun v1 S1 I1 J1 hp => ?_)
              obtain ⟨rfl, rfl, ⟨fXa, pXa⟩, rfl⟩ := hp
              obtain ⟨Xa, eXa⟩ : ∃ z, z = I1 := ⟨_, rfl⟩
              subst eXa
              have hTa : Tkn T n N Xa := Tkn_k (A := 87) (by decide) (f9_X fXa) hT
              have hOa := OuO_9 (by decide) fXa hO
              have hfa : fr (qX 87) X0 Xa := fr_t hf (f9_X fXa)
              show Rj _ _ _ _ _ _ (83, [some (.ref 95), some (.int 1), some (.int 18), some (.int (nI k)), some (.int 43), some (.int 1)], [], (SS b false), Xa, J, 0, 0)
              refine r_run okX5_readSum 2 (cs := []) (σ' := (87, [some (.ref 95), some (.int 1), some (.int 18), some (.int (nI k)), some (.int 43), some (.int 1)], [.int 47, .int 43], (SS b false), Xa, J, 0, 0)) rfl trivial ?_
              refine r_icmp okX5_readSum rfl (fun (h87 : ¬ (43 : Int32) = (47 : Int32)) => ?_) (fun h870 => ?_)
              · refine r_run okX5_readSum 1 (cs := []) (σ' := (98, [some (.ref 95), some (.int 1), some (.int 18), some (.int (nI k)), some (.int 43), some (.int 1)], [.ref 95], (SS b false), Xa, J, 0, 0)) rfl trivial ?_
                refine r_callV okX5_readSum okX5_readUnit [] [] 95 rfl rfl rfl kkX5_readUnit rfl rfl (by decide) rfl rfl rfl (by decide) ⟨Nat.le_refl _, Nat.le_refl _⟩ (Nat.le_of_ble_eq_true rfl) (b_unit87 γ hTa pXa hOa (by simp only [List.length_append, List.length_cons, List.length_nil] at *; omega)) (fun v1 S1 I1 J1 hp => ?_)
                obtain ⟨rfl, rfl, hfr, hr⟩ := hp
                obtain ⟨Xu, eXu⟩ : ∃ z, z = I1 := ⟨_, rfl⟩
                subst eXu
                cases hu : uR T n (i + 1) with
                | inl e =>
                  rw [hu] at hr
                  obtain ⟨rfl, gF, gE⟩ := hr
                  have hfu : fr (qX 87) X0 Xu := fr_t hfa hfr
                  have hs : SmT T n 1 none i acc (.inl e) := by unfold SmT; rw [if_pos (Or.inl h)]; simp only [hu]
                  show Rj _ _ _ _ _ _ (101, [some (.ref 95), some (.int 1), some (.int 18), some (.int (nI k)), some (.int 43), some (.int 1)], [.int 0], (SS b false), Xu, J, 0, 0)
                  refine r_run okX5_readSum 2 (cs := []) (σ' := (104, [some (.ref 95), some (.int 0), some (.int 18), some (.int (nI k)), some (.int 43), some (.int 1)], [.int 1], (SS b false), Xu, J, 0, 0)) rfl trivial ?_
                  refine r_ifc okX5_readSum rfl (fun (h104 : (1 : Int32) = (0 : Int32)) => ?_) (fun (h104 : ¬ (1 : Int32) = (0 : Int32)) => ?_)
                  · exact absurd h104 (by decide)
                  · refine r_run okX5_readSum 7 (cs := []) (σ' := (14, [some (.ref 95), some (.int 0), some (.int 43), some (.int ((nI k) + 1)), some (.int 43), some (.int 1)], [.int 800, .int ((nI k) + 1)], (SS b false), Xu, J, 0, 0)) rfl trivial ?_
                    refine r_icmp okX5_readSum rfl (fun (h14_1 : (800 : Int32) ≤ ((nI k) + 1)) => ?_) (fun (h14_1 : ¬ (800 : Int32) ≤ ((nI k) + 1)) => ?_)
                    · refine r_run okX5_readSum 2 (cs := []) (σ' := (140, [some (.ref 95), some (.int 0), some (.int 43), some (.int ((nI k) + 1)), some (.int 43), some (.int 1)], [.int 18, .int 43], (SS b false), Xu, J, 0, 0)) rfl trivial ?_
                      refine r_icmp okX5_readSum rfl (fun (h140 : (43 : Int32) = (18 : Int32)) => ?_) (fun (h140 : ¬ (43 : Int32) = (18 : Int32)) => ?_)
                      · exact absurd h140 (by decide)
                      · refine r_run okX5_readSum 4 (cs := []) (σ' := (149, [some (.ref 95), some (.int 0), some (.int 43), some (.int ((nI k) + 1)), some (.int 43), some (.int 1)], [.int 0, .int 43, .ref 87], (SS b false), Xu, J, 0, 0)) rfl trivial ?_
                        refine r_callV okX5_readSum okX6_add [.int 43, .int 0] [] 87 rfl rfl rfl kkX6_add rfl rfl (by decide) rfl rfl rfl (by decide) ⟨Nat.le_refl _, Nat.le_refl _⟩ (Nat.le_of_ble_eq_true rfl) (a_addF87 γ gF 43 0) (fun v1 S1 I1 J1 hp => ?_)
                        obtain ⟨⟨zXf1, rfl⟩, rfl, ⟨fXf1, oXf1⟩, rfl⟩ := hp
                        obtain ⟨Xf1, eXf1⟩ : ∃ z, z = I1 := ⟨_, rfl⟩
                        subst eXf1
                        show Rj _ _ _ _ _ _ (152, [some (.ref 95), some (.int 0), some (.int 43), some (.int ((nI k) + 1)), some (.int 43), some (.int 1)], [.int zXf1], (SS b false), Xf1, J, 0, 0)
                        refine r_run okX5_readSum 2 (cs := []) (σ' := (154, [some (.ref 95), some (.int 0), some (.int 43), some (.int ((nI k) + 1)), some (.int 43), some (.int 1)], [.int 0], (SS b false), Xf1, J, 0, 0)) rfl trivial ?_
                        refine r_iret okX5_readSum rfl rfl (by decide +kernel) (Nat.le_refl _) (Nat.le_refl _) ?_
                        exact ⟨rfl, rfl, .inl e, hd _ ⟨1, hs⟩, (fr_t hfu (fA_X fXf1)), rfl, oXf1, (FlO_k (by decide) fXf1 gE)⟩
                    · refine r_run okX5_readSum 1 (cs := []) (σ' := (18, [some (.ref 95), some (.int 0), some (.int 43), some (.int ((nI k) + 1)), some (.int 43), some (.int 1)], [.int 0], (SS b false), Xu, J, 0, 0)) rfl trivial ?_
                      refine r_ifc okX5_readSum rfl (fun (h18_1 : (0 : Int32) = (0 : Int32)) => ?_) (fun (h18_1 : ¬ (0 : Int32) = (0 : Int32)) => ?_)
                      · refine r_run okX5_readSum 2 (cs := []) (σ' := (140, [some (.ref 95), some (.int 0), some (.int 43), some (.int ((nI k) + 1)), some (.int 43), some (.int 1)], [.int 18, .int 43], (SS b false), Xu, J, 0, 0)) rfl trivial ?_
                        refine r_icmp okX5_readSum rfl (fun (h140_1 : (43 : Int32) = (18 : Int32)) => ?_) (fun (h140_1 : ¬ (43 : Int32) = (18 : Int32)) => ?_)
                        · exact absurd h140_1 (by decide)
                        · refine r_run okX5_readSum 4 (cs := []) (σ' := (149, [some (.ref 95), some (.int 0), some (.int 43), some (.int ((nI k) + 1)), some (.int 43), some (.int 1)], [.int 0, .int 43, .ref 87], (SS b false), Xu, J, 0, 0)) rfl trivial ?_
                          refine r_callV okX5_readSum okX6_add [.int 43, .int 0] [] 87 rfl rfl rfl kkX6_add rfl rfl (by decide) rfl rfl rfl (by decide) ⟨Nat.le_refl _, Nat.le_refl _⟩ (Nat.le_of_ble_eq_true rfl) (a_addF87 γ gF 43 0) (fun v1 S1 I1 J1 hp => ?_)
                          obtain ⟨⟨zXf1, rfl⟩, rfl, ⟨fXf1, oXf1⟩, rfl⟩ := hp
                          obtain ⟨Xf1, eXf1⟩ : ∃ z, z = I1 := ⟨_, rfl⟩
                          subst eXf1
                          show Rj _ _ _ _ _ _ (152, [some (.ref 95), some (.int 0), some (.int 43), some (.int ((nI k) + 1)), some (.int 43), some (.int 1)], [.int zXf1], (SS b false), Xf1, J, 0, 0)
                          refine r_run okX5_readSum 2 (cs := []) (σ' := (154, [some (.ref 95), some (.int 0), some (.int 43), some (.int ((nI k) + 1)), some (.int 43), some (.int 1)], [.int 0], (SS b false), Xf1, J, 0, 0)) rfl trivial ?_
                          refine r_iret okX5_readSum rfl rfl (by decide +kernel) (Nat.le_refl _) (Nat.le_refl _) ?_
                          exact ⟨rfl, rfl, .inl e, hd _ ⟨1, hs⟩, (fr_t hfu (fA_X fXf1)), rfl, oXf1, (FlO_k (by decide) fXf1 gE)⟩
                      · exact absurd h18_1 (by decide)
                | inr q =>
                  rw [hu] at hr
                  obtain ⟨rfl, gP, gO⟩ := hr
                  have hq1 := uR_l1 hu
                  have hq2 := gP.1
                  show Rj _ _ _ _ _ _ (101, [some (.ref 95), some (.int 1), some (.int 18), some (.int (nI k)), some (.int 43), some (.int 1)], [.int 1], (SS b false), Xu, J, 0, 0)
                  refine r_run okX5_readSum 2 (cs := []) (σ' := (104, [some (.ref 95), some (.int 1), some (.int 18), some (.int (nI k)), some (.int 43), some (.int 1)], [.int 1], (SS b false), Xu, J, 0, 0)) rfl trivial ?_
                  refine r_ifc okX5_readSum rfl (fun (h104_1 : (1 : Int32) = (0 : Int32)) => ?_) (fun (h104_1 : ¬ (1 : Int32) = (0 : Int32)) => ?_)
                  · exact absurd h104_1 (by decide)
                  · refine r_run okX5_readSum 5 (cs := []) (σ' := (10, [some (.ref 95), some (.int 1), some (.int 43), some (.int ((nI k) + 1)), some (.int 43), some (.int 1)], [], (SS b false), Xu, J, 0, 0)) rfl trivial ?_
                    rw [← nI_succ]
                    refine r_weak (L' := [some (.ref 95), some (.int 1), some (.int 43), some (.int (nI (k + 1))), none, none]) ⟨rfl, rfl, rfl, rfl, trivial⟩ ?_
                    refine K q _ hu (Tkn_k (A := 87) (by decide) hfr hTa) gP ?_ (fr_t hfa hfr)
                    rw [show l ++ (acc ++ wC none ++ q.1) = l ++ acc ++ wC none ++ q.1 by simp only [List.append_assoc]]
                    rw [show wC none = [] from rfl, app_n]; exact gO
              · have h87 : (43 : Int32) = (47 : Int32) := Classical.not_not.mp h870
                exact absurd h87 (by decide)
            · exact absurd h66 (by decide)
        · exact absurd h41 (by decide)
theorem sm_45_0_87 (γ : GE) {b : Bool} {J : AJ} {T : Nat → Int32} {n N i0 : Nat} {l : Cd} {X0 : AI} {X : AI} {i k : Nat} {acc : Cd} (h : kK T n i = 45) (hT : Tkn T n N X) (hP : PsO T n N X i) (hO : OuO X 87 (l ++ acc)) (hl : (l ++ acc).length + (wC none).length ≤ i) (hk : k ≤ i) (hf : fr (qX 87) X0 X) (hd : ∀ res, (∃ f, SmT T n f none i acc res) → Sm T n i0 res) (K : ∀ (q : Cd × Nat) (Y : AI), uR T n (i + 1) = .inr q → Tkn T n N Y → PsO T n N Y q.2 → OuO Y 87 (l ++ (acc ++ wC none ++ q.1)) → fr (qX 87) X0 Y → Rj γ mX5_readSum 2 0 0 (fun r S' I' J' => (SS b false) = S' ∧ J = J' ∧ ∃ res, Sm T n i0 res ∧ RsO T n N 87 X0 l res r I') (10, [some (.ref 95), some (.int 1), some (.int 45), some (.int (nI (k + 1))), none, none], [], (SS b false), Y, J, 0, 0)) : Rj γ mX5_readSum 2 0 0 (fun r S' I' J' => (SS b false) = S' ∧ J = J' ∧ ∃ res, Sm T n i0 res ∧ RsO T n N 87 X0 l res r I') (10, [some (.ref 95), some (.int 1), some (.int 18), some (.int (nI k)), none, none], [], (SS b false), X, J, 0, 0) := by
  have hlw : (wC none).length = 0 := rfl
  have hN := hT.1
  have hiN := hP.1
  have e7 : X 95 7 = 45 := hP.2.2.1.trans h
  have hi : i < N := kK_lt hT hiN (by rw [h]; decide)
  refine r_run okX5_readSum 2 (cs := []) (σ' := (14, [some (.ref 95), some (.int 1), some (.int 18), some (.int (nI k)), none, none], [.int 800, .int (nI k)], (SS b false), X, J, 0, 0)) rfl trivial ?_
  refine r_icmp okX5_readSum rfl (fun (h14 : (800 : Int32) ≤ (nI k)) => ?_) (fun (h14 : ¬ (800 : Int32) ≤ (nI k)) => ?_)
  · exact absurd h14 (nI_ge (b := 800) (by omega) (by decide))
  · refine r_run okX5_readSum 1 (cs := []) (σ' := (18, [some (.ref 95), some (.int 1), some (.int 18), some (.int (nI k)), none, none], [.int 1], (SS b false), X, J, 0, 0)) rfl trivial ?_
    refine r_ifc okX5_readSum rfl (fun (h18 : (1 : Int32) = (0 : Int32)) => ?_) (fun (h18 : ¬ (1 : Int32) = (0 : Int32)) => ?_)
    · exact absurd h18 (by decide)
    · refine r_run okX5_readSum 2 (cs := []) (σ' := (25, [some (.ref 95), some (.int 1), some (.int 18), some (.int (nI k)), none, none], [.int (X 95 7)], (SS b false), X, J, 0, 0)) rfl trivial ?_
      simp only [e7]
      show Rj _ _ _ _ _ _ (25, [some (.ref 95), some (.int 1), some (.int 18), some (.int (nI k)), none, none], [.int 45], (SS b false), X, J, 0, 0)
      refine r_callS okX5_readSum okX5_isReckoning [.int 45] [] rfl rfl rfl kkX5_isReckoning rfl rfl (by decide) (by decide) ⟨Nat.le_refl _, Nat.le_refl _⟩ (Nat.le_of_ble_eq_true rfl) (b_rk45 γ) (fun v1 S1 I1 J1 hp => ?_)
      obtain ⟨rfl, rfl, rfl, rfl⟩ := hp
      show Rj _ _ _ _ _ _ (28, [some (.ref 95), some (.int 1), some (.int 18), some (.int (nI k)), none, none], [.int 1], (SS b false), X, J, 0, 0)
      refine r_ifc okX5_readSum rfl (fun (h28 : (1 : Int32) = (0 : Int32)) => ?_) (fun (h28 : ¬ (1 : Int32) = (0 : Int32)) => ?_)
      · exact absurd h28 (by decide)
      · refine r_run okX5_readSum 5 (cs := []) (σ' := (41, [some (.ref 95), some (.int 1), some (.int 18), some (.int (nI k)), some (.int (X 95 7)), none], [.int 43, .int (X 95 7)], (SS b false), X, J, 0, 0)) rfl trivial ?_
        simp only [e7]
        show Rj _ _ _ _ _ _ (41, [some (.ref 95), some (.int 1), some (.int 18), some (.int (nI k)), some (.int 45), none], [.int 43, .int 45], (SS b false), X, J, 0, 0)
        refine r_icmp okX5_readSum rfl (fun (h41 : (45 : Int32) = (43 : Int32)) => ?_) (fun (h41 : ¬ (45 : Int32) = (43 : Int32)) => ?_)
        · exact absurd h41 (by decide)
        · refine r_run okX5_readSum 2 (cs := []) (σ' := (48, [some (.ref 95), some (.int 1), some (.int 18), some (.int (nI k)), some (.int 45), none], [.int 45, .int 45], (SS b false), X, J, 0, 0)) rfl trivial ?_
          refine r_icmp okX5_readSum rfl (fun (h48 : ¬ (45 : Int32) = (45 : Int32)) => ?_) (fun h480 => ?_)
          · exact absurd h48 (by decide)
          · have h48 : (45 : Int32) = (45 : Int32) := Classical.not_not.mp h480
            refine r_run okX5_readSum 4 (cs := []) (σ' := (60, [some (.ref 95), some (.int 1), some (.int 18), some (.int (nI k)), some (.int 45), some (.int 1)], [.int 1], (SS b false), X, J, 0, 0)) rfl trivial ?_
            refine r_ifc okX5_readSum rfl (fun (h60 : (1 : Int32) = (0 : Int32)) => ?_) (fun (h60 : ¬ (1 : Int32) = (0 : Int32)) => ?_)
            · exact absurd h60 (by decide)
            · refine r_run okX5_readSum 2 (cs := []) (σ' := (66, [some (.ref 95), some (.int 1), some (.int 18), some (.int (nI k)), some (.int 45), some (.int 1)], [.int 18, .int 18], (SS b false), X, J, 0, 0)) rfl trivial ?_
              refine r_icmp okX5_readSum rfl (fun (h66 : (18 : Int32) = (18 : Int32)) => ?_) (fun (h66 : ¬ (18 : Int32) = (18 : Int32)) => ?_)
              · refine r_run okX5_readSum 1 (cs := []) (σ' := (80, [some (.ref 95), some (.int 1), some (.int 18), some (.int (nI k)), some (.int 45), some (.int 1)], [.ref 95], (SS b false), X, J, 0, 0)) rfl trivial ?_
                refine r_callV okX5_readSum okX5_advance [] [] 95 rfl rfl rfl kkX5_advance rfl rfl (by decide) rfl rfl rfl (by decide) ⟨Nat.le_refl _, Nat.le_refl _⟩ (Nat.le_of_ble_eq_true rfl) (b_adv87 γ hT hP hi) (fun v1 S1 I1 J1 hp => ?_)
                obtain ⟨rfl, rfl, ⟨fXa, pXa⟩, rfl⟩ := hp
                obtain ⟨Xa, eXa⟩ : ∃ z, z = I1 := ⟨_, rfl⟩
                subst eXa
                have hTa : Tkn T n N Xa := Tkn_k (A := 87) (by decide) (f9_X fXa) hT
                have hOa := OuO_9 (by decide) fXa hO
                have hfa : fr (qX 87) X0 Xa := fr_t hf (f9_X fXa)
                show Rj _ _ _ _ _ _ (83, [some (.ref 95), some (.int 1), some (.int 18), some (.int (nI k)), some (.int 45), some (.int 1)], [], (SS b false), Xa, J, 0, 0)
                refine r_run okX5_readSum 2 (cs := []) (σ' := (87, [some (.ref 95), some (.int 1), some (.int 18), some (.int (nI k)), some (.int 45), some (.int 1)], [.int 47, .int 45], (SS b false), Xa, J, 0, 0)) rfl trivial ?_
                refine r_icmp okX5_readSum rfl (fun (h87 : ¬ (45 : Int32) = (47 : Int32)) => ?_) (fun h870 => ?_)
                · refine r_run okX5_readSum 1 (cs := []) (σ' := (98, [some (.ref 95), some (.int 1), some (.int 18), some (.int (nI k)), some (.int 45), some (.int 1)], [.ref 95], (SS b false), Xa, J, 0, 0)) rfl trivial ?_
                  refine r_callV okX5_readSum okX5_readUnit [] [] 95 rfl rfl rfl kkX5_readUnit rfl rfl (by decide) rfl rfl rfl (by decide) ⟨Nat.le_refl _, Nat.le_refl _⟩ (Nat.le_of_ble_eq_true rfl) (b_unit87 γ hTa pXa hOa (by simp only [List.length_append, List.length_cons, List.length_nil] at *; omega)) (fun v1 S1 I1 J1 hp => ?_)
                  obtain ⟨rfl, rfl, hfr, hr⟩ := hp
                  obtain ⟨Xu, eXu⟩ : ∃ z, z = I1 := ⟨_, rfl⟩
                  subst eXu
                  cases hu : uR T n (i + 1) with
                  | inl e =>
                    rw [hu] at hr
                    obtain ⟨rfl, gF, gE⟩ := hr
                    have hfu : fr (qX 87) X0 Xu := fr_t hfa hfr
                    have hs : SmT T n 1 none i acc (.inl e) := by unfold SmT; rw [if_pos (Or.inr h)]; simp only [hu]
                    show Rj _ _ _ _ _ _ (101, [some (.ref 95), some (.int 1), some (.int 18), some (.int (nI k)), some (.int 45), some (.int 1)], [.int 0], (SS b false), Xu, J, 0, 0)
                    refine r_run okX5_readSum 2 (cs := []) (σ' := (104, [some (.ref 95), some (.int 0), some (.int 18), some (.int (nI k)), some (.int 45), some (.int 1)], [.int 1], (SS b false), Xu, J, 0, 0)) rfl trivial ?_
                    refine r_ifc okX5_readSum rfl (fun (h104 : (1 : Int32) = (0 : Int32)) => ?_) (fun (h104 : ¬ (1 : Int32) = (0 : Int32)) => ?_)
                    · exact absurd h104 (by decide)
                    · refine r_run okX5_readSum 7 (cs := []) (σ' := (14, [some (.ref 95), some (.int 0), some (.int 45), some (.int ((nI k) + 1)), some (.int 45), some (.int 1)], [.int 800, .int ((nI k) + 1)], (SS b false), Xu, J, 0, 0)) rfl trivial ?_
                      refine r_icmp okX5_readSum rfl (fun (h14_1 : (800 : Int32) ≤ ((nI k) + 1)) => ?_) (fun (h14_1 : ¬ (800 : Int32) ≤ ((nI k) + 1)) => ?_)
                      · refine r_run okX5_readSum 2 (cs := []) (σ' := (140, [some (.ref 95), some (.int 0), some (.int 45), some (.int ((nI k) + 1)), some (.int 45), some (.int 1)], [.int 18, .int 45], (SS b false), Xu, J, 0, 0)) rfl trivial ?_
                        refine r_icmp okX5_readSum rfl (fun (h140 : (45 : Int32) = (18 : Int32)) => ?_) (fun (h140 : ¬ (45 : Int32) = (18 : Int32)) => ?_)
                        · exact absurd h140 (by decide)
                        · refine r_run okX5_readSum 4 (cs := []) (σ' := (149, [some (.ref 95), some (.int 0), some (.int 45), some (.int ((nI k) + 1)), some (.int 45), some (.int 1)], [.int 0, .int 45, .ref 87], (SS b false), Xu, J, 0, 0)) rfl trivial ?_
                          refine r_callV okX5_readSum okX6_add [.int 45, .int 0] [] 87 rfl rfl rfl kkX6_add rfl rfl (by decide) rfl rfl rfl (by decide) ⟨Nat.le_refl _, Nat.le_refl _⟩ (Nat.le_of_ble_eq_true rfl) (a_addF87 γ gF 45 0) (fun v1 S1 I1 J1 hp => ?_)
                          obtain ⟨⟨zXf1, rfl⟩, rfl, ⟨fXf1, oXf1⟩, rfl⟩ := hp
                          obtain ⟨Xf1, eXf1⟩ : ∃ z, z = I1 := ⟨_, rfl⟩
                          subst eXf1
                          show Rj _ _ _ _ _ _ (152, [some (.ref 95), some (.int 0), some (.int 45), some (.int ((nI k) + 1)), some (.int 45), some (.int 1)], [.int zXf1], (SS b false), Xf1, J, 0, 0)
                          refine r_run okX5_readSum 2 (cs := []) (σ' := (154, [some (.ref 95), some (.int 0), some (.int 45), some (.int ((nI k) + 1)), some (.int 45), some (.int 1)], [.int 0], (SS b false), Xf1, J, 0, 0)) rfl trivial ?_
                          refine r_iret okX5_readSum rfl rfl (by decide +kernel) (Nat.le_refl _) (Nat.le_refl _) ?_
                          exact ⟨rfl, rfl, .inl e, hd _ ⟨1, hs⟩, (fr_t hfu (fA_X fXf1)), rfl, oXf1, (FlO_k (by decide) fXf1 gE)⟩
                      · refine r_run okX5_readSum 1 (cs := []) (σ' := (18, [some (.ref 95), some (.int 0), some (.int 45), some (.int ((nI k) + 1)), some (.int 45), some (.int 1)], [.int 0], (SS b false), Xu, J, 0, 0)) rfl trivial ?_
                        refine r_ifc okX5_readSum rfl (fun (h18_1 : (0 : Int32) = (0 : Int32)) => ?_) (fun (h18_1 : ¬ (0 : Int32) = (0 : Int32)) => ?_)
                        · refine r_run okX5_readSum 2 (cs := []) (σ' := (140, [some (.ref 95), some (.int 0), some (.int 45), some (.int ((nI k) + 1)), some (.int 45), some (.int 1)], [.int 18, .int 45], (SS b false), Xu, J, 0, 0)) rfl trivial ?_
                          refine r_icmp okX5_readSum rfl (fun (h140_1 : (45 : Int32) = (18 : Int32)) => ?_) (fun (h140_1 : ¬ (45 : Int32) = (18 : Int32)) => ?_)
                          · exact absurd h140_1 (by decide)
                          · refine r_run okX5_readSum 4 (cs := []) (σ' := (149, [some (.ref 95), some (.int 0), some (.int 45), some (.int ((nI k) + 1)), some (.int 45), some (.int 1)], [.int 0, .int 45, .ref 87], (SS b false), Xu, J, 0, 0)) rfl trivial ?_
                            refine r_callV okX5_readSum okX6_add [.int 45, .int 0] [] 87 rfl rfl rfl kkX6_add rfl rfl (by decide) rfl rfl rfl (by decide) ⟨Nat.le_refl _, Nat.le_refl _⟩ (Nat.le_of_ble_eq_true rfl) (a_addF87 γ gF 45 0) (fun v1 S1 I1 J1 hp => ?_)
                            obtain ⟨⟨zXf1, rfl⟩, rfl, ⟨fXf1, oXf1⟩, rfl⟩ := hp
                            obtain ⟨Xf1, eXf1⟩ : ∃ z, z = I1 := ⟨_, rfl⟩
                            subst eXf1
                            show Rj _ _ _ _ _ _ (152, [some (.ref 95), some (.int 0), some (.int 45), some (.int ((nI k) + 1)), some (.int 45), some (.int 1)], [.int zXf1], (SS b false), Xf1, J, 0, 0)
                            refine r_run okX5_readSum 2 (cs := []) (σ' := (154, [some (.ref 95), some (.int 0), some (.int 45), some (.int ((nI k) + 1)), some (.int 45), some (.int 1)], [.int 0], (SS b false), Xf1, J, 0, 0)) rfl trivial ?_
                            refine r_iret okX5_readSum rfl rfl (by decide +kernel) (Nat.le_refl _) (Nat.le_refl _) ?_
                            exact ⟨rfl, rfl, .inl e, hd _ ⟨1, hs⟩, (fr_t hfu (fA_X fXf1)), rfl, oXf1, (FlO_k (by decide) fXf1 gE)⟩
                        · exact absurd h18_1 (by decide)
                  | inr q =>
                    rw [hu] at hr
                    obtain ⟨rfl, gP, gO⟩ := hr
                    have hq1 := uR_l1 hu
                    have hq2 := gP.1
                    show Rj _ _ _ _ _ _ (101, [some (.ref 95), some (.int 1), some (.int 18), some (.int (nI k)), some (.int 45), some (.int 1)], [.int 1], (SS b false), Xu, J, 0, 0)
                    refine r_run okX5_readSum 2 (cs := []) (σ' := (104, [some (.ref 95), some (.int 1), some (.int 18), some (.int (nI k)), some (.int 45), some (.int 1)], [.int 1], (SS b false), Xu, J, 0, 0)) rfl trivial ?_
                    refine r_ifc okX5_readSum rfl (fun (h104_1 : (1 : Int32) = (0 : Int32)) => ?_) (fun (h104_1 : ¬ (1 : Int32) = (0 : Int32)) => ?_)
                    · exact absurd h104_1 (by decide)
                    · refine r_run okX5_readSum 5 (cs := []) (σ' := (10, [some (.ref 95), some (.int 1), some (.int 45), some (.int ((nI k) + 1)), some (.int 45), some (.int 1)], [], (SS b false), Xu, J, 0, 0)) rfl trivial ?_
                      rw [← nI_succ]
                      refine r_weak (L' := [some (.ref 95), some (.int 1), some (.int 45), some (.int (nI (k + 1))), none, none]) ⟨rfl, rfl, rfl, rfl, trivial⟩ ?_
                      refine K q _ hu (Tkn_k (A := 87) (by decide) hfr hTa) gP ?_ (fr_t hfa hfr)
                      rw [show l ++ (acc ++ wC none ++ q.1) = l ++ acc ++ wC none ++ q.1 by simp only [List.append_assoc]]
                      rw [show wC none = [] from rfl, app_n]; exact gO
                · have h87 : (45 : Int32) = (47 : Int32) := Classical.not_not.mp h870
                  exact absurd h87 (by decide)
              · exact absurd h66 (by decide)
theorem sm_42_0_87 (γ : GE) {b : Bool} {J : AJ} {T : Nat → Int32} {n N i0 : Nat} {l : Cd} {X0 : AI} {X : AI} {i k : Nat} {acc : Cd} (h : kK T n i = 42) (hT : Tkn T n N X) (hP : PsO T n N X i) (hO : OuO X 87 (l ++ acc)) (hl : (l ++ acc).length + (wC none).length ≤ i) (hk : k ≤ i) (hf : fr (qX 87) X0 X) (hd : ∀ res, (∃ f, SmT T n f none i acc res) → Sm T n i0 res) (K : ∀ (q : Cd × Nat) (Y : AI), uR T n (i + 1) = .inr q → Tkn T n N Y → PsO T n N Y q.2 → OuO Y 87 (l ++ (acc ++ q.1 ++ [(4, 0)])) → fr (qX 87) X0 Y → Rj γ mX5_readSum 2 0 0 (fun r S' I' J' => (SS b false) = S' ∧ J = J' ∧ ∃ res, Sm T n i0 res ∧ RsO T n N 87 X0 l res r I') (10, [some (.ref 95), some (.int 1), some (.int 18), some (.int (nI (k + 1))), none, none], [], (SS b false), Y, J, 0, 0)) : Rj γ mX5_readSum 2 0 0 (fun r S' I' J' => (SS b false) = S' ∧ J = J' ∧ ∃ res, Sm T n i0 res ∧ RsO T n N 87 X0 l res r I') (10, [some (.ref 95), some (.int 1), some (.int 18), some (.int (nI k)), none, none], [], (SS b false), X, J, 0, 0) := by
  have hlw : (wC none).length = 0 := rfl
  have hN := hT.1
  have hiN := hP.1
  have e7 : X 95 7 = 42 := hP.2.2.1.trans h
  have hi : i < N := kK_lt hT hiN (by rw [h]; decide)
  refine r_run okX5_readSum 2 (cs := []) (σ' := (14, [some (.ref 95), some (.int 1), some (.int 18), some (.int (nI k)), none, none], [.int 800, .int (nI k)], (SS b false), X, J, 0, 0)) rfl trivial ?_
  refine r_icmp okX5_readSum rfl (fun (h14 : (800 : Int32) ≤ (nI k)) => ?_) (fun (h14 : ¬ (800 : Int32) ≤ (nI k)) => ?_)
  · exact absurd h14 (nI_ge (b := 800) (by omega) (by decide))
  · refine r_run okX5_readSum 1 (cs := []) (σ' := (18, [some (.ref 95), some (.int 1), some (.int 18), some (.int (nI k)), none, none], [.int 1], (SS b false), X, J, 0, 0)) rfl trivial ?_
    refine r_ifc okX5_readSum rfl (fun (h18 : (1 : Int32) = (0 : Int32)) => ?_) (fun (h18 : ¬ (1 : Int32) = (0 : Int32)) => ?_)
    · exact absurd h18 (by decide)
    · refine r_run okX5_readSum 2 (cs := []) (σ' := (25, [some (.ref 95), some (.int 1), some (.int 18), some (.int (nI k)), none, none], [.int (X 95 7)], (SS b false), X, J, 0, 0)) rfl trivial ?_
      simp only [e7]
      show Rj _ _ _ _ _ _ (25, [some (.ref 95), some (.int 1), some (.int 18), some (.int (nI k)), none, none], [.int 42], (SS b false), X, J, 0, 0)
      refine r_callS okX5_readSum okX5_isReckoning [.int 42] [] rfl rfl rfl kkX5_isReckoning rfl rfl (by decide) (by decide) ⟨Nat.le_refl _, Nat.le_refl _⟩ (Nat.le_of_ble_eq_true rfl) (b_rk42 γ) (fun v1 S1 I1 J1 hp => ?_)
      obtain ⟨rfl, rfl, rfl, rfl⟩ := hp
      show Rj _ _ _ _ _ _ (28, [some (.ref 95), some (.int 1), some (.int 18), some (.int (nI k)), none, none], [.int 1], (SS b false), X, J, 0, 0)
      refine r_ifc okX5_readSum rfl (fun (h28 : (1 : Int32) = (0 : Int32)) => ?_) (fun (h28 : ¬ (1 : Int32) = (0 : Int32)) => ?_)
      · exact absurd h28 (by decide)
      · refine r_run okX5_readSum 5 (cs := []) (σ' := (41, [some (.ref 95), some (.int 1), some (.int 18), some (.int (nI k)), some (.int (X 95 7)), none], [.int 43, .int (X 95 7)], (SS b false), X, J, 0, 0)) rfl trivial ?_
        simp only [e7]
        show Rj _ _ _ _ _ _ (41, [some (.ref 95), some (.int 1), some (.int 18), some (.int (nI k)), some (.int 42), none], [.int 43, .int 42], (SS b false), X, J, 0, 0)
        refine r_icmp okX5_readSum rfl (fun (h41 : (42 : Int32) = (43 : Int32)) => ?_) (fun (h41 : ¬ (42 : Int32) = (43 : Int32)) => ?_)
        · exact absurd h41 (by decide)
        · refine r_run okX5_readSum 2 (cs := []) (σ' := (48, [some (.ref 95), some (.int 1), some (.int 18), some (.int (nI k)), some (.int 42), none], [.int 45, .int 42], (SS b false), X, J, 0, 0)) rfl trivial ?_
          refine r_icmp okX5_readSum rfl (fun (h48 : ¬ (42 : Int32) = (45 : Int32)) => ?_) (fun h480 => ?_)
          · refine r_run okX5_readSum 3 (cs := []) (σ' := (60, [some (.ref 95), some (.int 1), some (.int 18), some (.int (nI k)), some (.int 42), some (.int 0)], [.int 0], (SS b false), X, J, 0, 0)) rfl trivial ?_
            refine r_ifc okX5_readSum rfl (fun (h60 : (0 : Int32) = (0 : Int32)) => ?_) (fun (h60 : ¬ (0 : Int32) = (0 : Int32)) => ?_)
            · refine r_run okX5_readSum 1 (cs := []) (σ' := (80, [some (.ref 95), some (.int 1), some (.int 18), some (.int (nI k)), some (.int 42), some (.int 0)], [.ref 95], (SS b false), X, J, 0, 0)) rfl trivial ?_
              refine r_callV okX5_readSum okX5_advance [] [] 95 rfl rfl rfl kkX5_advance rfl rfl (by decide) rfl rfl rfl (by decide) ⟨Nat.le_refl _, Nat.le_refl _⟩ (Nat.le_of_ble_eq_true rfl) (b_adv87 γ hT hP hi) (fun v1 S1 I1 J1 hp => ?_)
              obtain ⟨rfl, rfl, ⟨fXa, pXa⟩, rfl⟩ := hp
              obtain ⟨Xa, eXa⟩ : ∃ z, z = I1 := ⟨_, rfl⟩
              subst eXa
              have hTa : Tkn T n N Xa := Tkn_k (A := 87) (by decide) (f9_X fXa) hT
              have hOa := OuO_9 (by decide) fXa hO
              have hfa : fr (qX 87) X0 Xa := fr_t hf (f9_X fXa)
              show Rj _ _ _ _ _ _ (83, [some (.ref 95), some (.int 1), some (.int 18), some (.int (nI k)), some (.int 42), some (.int 0)], [], (SS b false), Xa, J, 0, 0)
              refine r_run okX5_readSum 2 (cs := []) (σ' := (87, [some (.ref 95), some (.int 1), some (.int 18), some (.int (nI k)), some (.int 42), some (.int 0)], [.int 47, .int 42], (SS b false), Xa, J, 0, 0)) rfl trivial ?_
              refine r_icmp okX5_readSum rfl (fun (h87 : ¬ (42 : Int32) = (47 : Int32)) => ?_) (fun h870 => ?_)
              · refine r_run okX5_readSum 1 (cs := []) (σ' := (98, [some (.ref 95), some (.int 1), some (.int 18), some (.int (nI k)), some (.int 42), some (.int 0)], [.ref 95], (SS b false), Xa, J, 0, 0)) rfl trivial ?_
                refine r_callV okX5_readSum okX5_readUnit [] [] 95 rfl rfl rfl kkX5_readUnit rfl rfl (by decide) rfl rfl rfl (by decide) ⟨Nat.le_refl _, Nat.le_refl _⟩ (Nat.le_of_ble_eq_true rfl) (b_unit87 γ hTa pXa hOa (by simp only [List.length_append, List.length_cons, List.length_nil] at *; omega)) (fun v1 S1 I1 J1 hp => ?_)
                obtain ⟨rfl, rfl, hfr, hr⟩ := hp
                obtain ⟨Xu, eXu⟩ : ∃ z, z = I1 := ⟨_, rfl⟩
                subst eXu
                cases hu : uR T n (i + 1) with
                | inl e =>
                  rw [hu] at hr
                  obtain ⟨rfl, gF, gE⟩ := hr
                  have hfu : fr (qX 87) X0 Xu := fr_t hfa hfr
                  have hs : SmT T n 1 none i acc (.inl e) := by unfold SmT; rw [if_neg (by rw [h]; decide), if_pos h]; simp only [hu]
                  show Rj _ _ _ _ _ _ (101, [some (.ref 95), some (.int 1), some (.int 18), some (.int (nI k)), some (.int 42), some (.int 0)], [.int 0], (SS b false), Xu, J, 0, 0)
                  refine r_run okX5_readSum 2 (cs := []) (σ' := (104, [some (.ref 95), some (.int 0), some (.int 18), some (.int (nI k)), some (.int 42), some (.int 0)], [.int 0], (SS b false), Xu, J, 0, 0)) rfl trivial ?_
                  refine r_ifc okX5_readSum rfl (fun (h104 : (0 : Int32) = (0 : Int32)) => ?_) (fun (h104 : ¬ (0 : Int32) = (0 : Int32)) => ?_)
                  · refine r_run okX5_readSum 2 (cs := []) (σ' := (117, [some (.ref 95), some (.int 0), some (.int 18), some (.int (nI k)), some (.int 42), some (.int 0)], [.int 42, .int 42], (SS b false), Xu, J, 0, 0)) rfl trivial ?_
                    refine r_icmp okX5_readSum rfl (fun (h117 : ¬ (42 : Int32) = (42 : Int32)) => ?_) (fun h1170 => ?_)
                    · exact absurd h117 (by decide)
                    · have h117 : (42 : Int32) = (42 : Int32) := Classical.not_not.mp h1170
                      refine r_run okX5_readSum 4 (cs := []) (σ' := (127, [some (.ref 95), some (.int 0), some (.int 18), some (.int (nI k)), some (.int 42), some (.int 0)], [.int 0, .int 42, .ref 87], (SS b false), Xu, J, 0, 0)) rfl trivial ?_
                      refine r_callV okX5_readSum okX6_add [.int 42, .int 0] [] 87 rfl rfl rfl kkX6_add rfl rfl (by decide) rfl rfl rfl (by decide) ⟨Nat.le_refl _, Nat.le_refl _⟩ (Nat.le_of_ble_eq_true rfl) (a_addF87 γ gF 42 0) (fun v1 S1 I1 J1 hp => ?_)
                      obtain ⟨⟨zXf1, rfl⟩, rfl, ⟨fXf1, oXf1⟩, rfl⟩ := hp
                      obtain ⟨Xf1, eXf1⟩ : ∃ z, z = I1 := ⟨_, rfl⟩
                      subst eXf1
                      show Rj _ _ _ _ _ _ (130, [some (.ref 95), some (.int 0), some (.int 18), some (.int (nI k)), some (.int 42), some (.int 0)], [.int zXf1], (SS b false), Xf1, J, 0, 0)
                      refine r_run okX5_readSum 5 (cs := []) (σ' := (14, [some (.ref 95), some (.int 0), some (.int 18), some (.int ((nI k) + 1)), some (.int 42), some (.int 0)], [.int 800, .int ((nI k) + 1)], (SS b false), Xf1, J, 0, 0)) rfl trivial ?_
                      refine r_icmp okX5_readSum rfl (fun (h14_1 : (800 : Int32) ≤ ((nI k) + 1)) => ?_) (fun (h14_1 : ¬ (800 : Int32) ≤ ((nI k) + 1)) => ?_)
                      · refine r_run okX5_readSum 2 (cs := []) (σ' := (140, [some (.ref 95), some (.int 0), some (.int 18), some (.int ((nI k) + 1)), some (.int 42), some (.int 0)], [.int 18, .int 18], (SS b false), Xf1, J, 0, 0)) rfl trivial ?_
                        refine r_icmp okX5_readSum rfl (fun (h140 : (18 : Int32) = (18 : Int32)) => ?_) (fun (h140 : ¬ (18 : Int32) = (18 : Int32)) => ?_)
                        · refine r_run okX5_readSum 1 (cs := []) (σ' := (154, [some (.ref 95), some (.int 0), some (.int 18), some (.int ((nI k) + 1)), some (.int 42), some (.int 0)], [.int 0], (SS b false), Xf1, J, 0, 0)) rfl trivial ?_
                          refine r_iret okX5_readSum rfl rfl (by decide +kernel) (Nat.le_refl _) (Nat.le_refl _) ?_
                          exact ⟨rfl, rfl, .inl e, hd _ ⟨1, hs⟩, (fr_t hfu (fA_X fXf1)), rfl, oXf1, (FlO_k (by decide) fXf1 gE)⟩
                        · exact absurd h140 (by decide)
                      · refine r_run okX5_readSum 1 (cs := []) (σ' := (18, [some (.ref 95), some (.int 0), some (.int 18), some (.int ((nI k) + 1)), some (.int 42), some (.int 0)], [.int 0], (SS b false), Xf1, J, 0, 0)) rfl trivial ?_
                        refine r_ifc okX5_readSum rfl (fun (h18_1 : (0 : Int32) = (0 : Int32)) => ?_) (fun (h18_1 : ¬ (0 : Int32) = (0 : Int32)) => ?_)
                        · refine r_run okX5_readSum 2 (cs := []) (σ' := (140, [some (.ref 95), some (.int 0), some (.int 18), some (.int ((nI k) + 1)), some (.int 42), some (.int 0)], [.int 18, .int 18], (SS b false), Xf1, J, 0, 0)) rfl trivial ?_
                          refine r_icmp okX5_readSum rfl (fun (h140_1 : (18 : Int32) = (18 : Int32)) => ?_) (fun (h140_1 : ¬ (18 : Int32) = (18 : Int32)) => ?_)
                          · refine r_run okX5_readSum 1 (cs := []) (σ' := (154, [some (.ref 95), some (.int 0), some (.int 18), some (.int ((nI k) + 1)), some (.int 42), some (.int 0)], [.int 0], (SS b false), Xf1, J, 0, 0)) rfl trivial ?_
                            refine r_iret okX5_readSum rfl rfl (by decide +kernel) (Nat.le_refl _) (Nat.le_refl _) ?_
                            exact ⟨rfl, rfl, .inl e, hd _ ⟨1, hs⟩, (fr_t hfu (fA_X fXf1)), rfl, oXf1, (FlO_k (by decide) fXf1 gE)⟩
                          · exact absurd h140_1 (by decide)
                        · exact absurd h18_1 (by decide)
                  · exact absurd h104 (by decide)
                | inr q =>
                  rw [hu] at hr
                  obtain ⟨rfl, gP, gO⟩ := hr
                  have hq1 := uR_l1 hu
                  have hq2 := gP.1
                  show Rj _ _ _ _ _ _ (101, [some (.ref 95), some (.int 1), some (.int 18), some (.int (nI k)), some (.int 42), some (.int 0)], [.int 1], (SS b false), Xu, J, 0, 0)
                  refine r_run okX5_readSum 2 (cs := []) (σ' := (104, [some (.ref 95), some (.int 1), some (.int 18), some (.int (nI k)), some (.int 42), some (.int 0)], [.int 0], (SS b false), Xu, J, 0, 0)) rfl trivial ?_
                  refine r_ifc okX5_readSum rfl (fun (h104_1 : (0 : Int32) = (0 : Int32)) => ?_) (fun (h104_1 : ¬ (0 : Int32) = (0 : Int32)) => ?_)
                  · refine r_run okX5_readSum 2 (cs := []) (σ' := (117, [some (.ref 95), some (.int 1), some (.int 18), some (.int (nI k)), some (.int 42), some (.int 0)], [.int 42, .int 42], (SS b false), Xu, J, 0, 0)) rfl trivial ?_
                    refine r_icmp okX5_readSum rfl (fun (h117_1 : ¬ (42 : Int32) = (42 : Int32)) => ?_) (fun h117_10 => ?_)
                    · exact absurd h117_1 (by decide)
                    · have h117_1 : (42 : Int32) = (42 : Int32) := Classical.not_not.mp h117_10
                      refine r_run okX5_readSum 4 (cs := []) (σ' := (127, [some (.ref 95), some (.int 1), some (.int 18), some (.int (nI k)), some (.int 42), some (.int 0)], [.int 0, .int 42, .ref 87], (SS b false), Xu, J, 0, 0)) rfl trivial ?_
                      refine r_callV okX5_readSum okX6_add [.int 42, .int 0] [] 87 rfl rfl rfl kkX6_add rfl rfl (by decide) rfl rfl rfl (by decide) ⟨Nat.le_refl _, Nat.le_refl _⟩ (Nat.le_of_ble_eq_true rfl) (a_add87 γ gO (by simp only [List.length_append, List.length_cons, List.length_nil] at *; omega) (p := (4, 0)) rfl) (fun v1 S1 I1 J1 hp => ?_)
                      obtain ⟨rfl, rfl, ⟨fXg, oXg⟩, rfl⟩ := hp
                      obtain ⟨Xg, eXg⟩ : ∃ z, z = I1 := ⟨_, rfl⟩
                      subst eXg
                      show Rj _ _ _ _ _ _ (130, [some (.ref 95), some (.int 1), some (.int 18), some (.int (nI k)), some (.int 42), some (.int 0)], [.int 1], (SS b false), Xg, J, 0, 0)
                      refine r_run okX5_readSum 3 (cs := []) (σ' := (10, [some (.ref 95), some (.int 1), some (.int 18), some (.int ((nI k) + 1)), some (.int 42), some (.int 0)], [], (SS b false), Xg, J, 0, 0)) rfl trivial ?_
                      rw [← nI_succ]
                      refine r_weak (L' := [some (.ref 95), some (.int 1), some (.int 18), some (.int (nI (k + 1))), none, none]) ⟨rfl, rfl, rfl, rfl, trivial⟩ ?_
                      refine K q _ hu (Tkn_k (A := 87) (by decide) (fA_X fXg) (Tkn_k (A := 87) (by decide) hfr hTa)) (PsO_k (by decide) fXg gP) ?_ (fr_t (fr_t hfa hfr) (fA_X fXg))
                      rw [show l ++ (acc ++ q.1 ++ [(4, 0)]) = l ++ acc ++ q.1 ++ [(4, 0)] by simp only [List.append_assoc]]
                      exact oXg
                  · exact absurd h104_1 (by decide)
              · have h87 : (42 : Int32) = (47 : Int32) := Classical.not_not.mp h870
                exact absurd h87 (by decide)
            · exact absurd h60 (by decide)
          · have h48 : (42 : Int32) = (45 : Int32) := Classical.not_not.mp h480
            exact absurd h48 (by decide)
theorem sm_47_0_87 (γ : GE) {b : Bool} {J : AJ} {T : Nat → Int32} {n N i0 : Nat} {l : Cd} {X0 : AI} {X : AI} {i k : Nat} {acc : Cd} (h : kK T n i = 47) (hT : Tkn T n N X) (hP : PsO T n N X i) (hO : OuO X 87 (l ++ acc)) (hl : (l ++ acc).length + (wC none).length ≤ i) (hk : k ≤ i) (hf : fr (qX 87) X0 X) (hd : ∀ res, (∃ f, SmT T n f none i acc res) → Sm T n i0 res) (K : ∀ (q : Cd × Nat) (Y : AI), dR T n (i + 1) = .inr q → Tkn T n N Y → PsO T n N Y q.2 → OuO Y 87 (l ++ (acc ++ q.1)) → fr (qX 87) X0 Y → Rj γ mX5_readSum 2 0 0 (fun r S' I' J' => (SS b false) = S' ∧ J = J' ∧ ∃ res, Sm T n i0 res ∧ RsO T n N 87 X0 l res r I') (10, [some (.ref 95), some (.int 1), some (.int 18), some (.int (nI (k + 1))), none, none], [], (SS b false), Y, J, 0, 0)) : Rj γ mX5_readSum 2 0 0 (fun r S' I' J' => (SS b false) = S' ∧ J = J' ∧ ∃ res, Sm T n i0 res ∧ RsO T n N 87 X0 l res r I') (10, [some (.ref 95), some (.int 1), some (.int 18), some (.int (nI k)), none, none], [], (SS b false), X, J, 0, 0) := by
  have hlw : (wC none).length = 0 := rfl
  have hN := hT.1
  have hiN := hP.1
  have e7 : X 95 7 = 47 := hP.2.2.1.trans h
  have hi : i < N := kK_lt hT hiN (by rw [h]; decide)
  refine r_run okX5_readSum 2 (cs := []) (σ' := (14, [some (.ref 95), some (.int 1), some (.int 18), some (.int (nI k)), none, none], [.int 800, .int (nI k)], (SS b false), X, J, 0, 0)) rfl trivial ?_
  refine r_icmp okX5_readSum rfl (fun (h14 : (800 : Int32) ≤ (nI k)) => ?_) (fun (h14 : ¬ (800 : Int32) ≤ (nI k)) => ?_)
  · exact absurd h14 (nI_ge (b := 800) (by omega) (by decide))
  · refine r_run okX5_readSum 1 (cs := []) (σ' := (18, [some (.ref 95), some (.int 1), some (.int 18), some (.int (nI k)), none, none], [.int 1], (SS b false), X, J, 0, 0)) rfl trivial ?_
    refine r_ifc okX5_readSum rfl (fun (h18 : (1 : Int32) = (0 : Int32)) => ?_) (fun (h18 : ¬ (1 : Int32) = (0 : Int32)) => ?_)
    · exact absurd h18 (by decide)
    · refine r_run okX5_readSum 2 (cs := []) (σ' := (25, [some (.ref 95), some (.int 1), some (.int 18), some (.int (nI k)), none, none], [.int (X 95 7)], (SS b false), X, J, 0, 0)) rfl trivial ?_
      simp only [e7]
      show Rj _ _ _ _ _ _ (25, [some (.ref 95), some (.int 1), some (.int 18), some (.int (nI k)), none, none], [.int 47], (SS b false), X, J, 0, 0)
      refine r_callS okX5_readSum okX5_isReckoning [.int 47] [] rfl rfl rfl kkX5_isReckoning rfl rfl (by decide) (by decide) ⟨Nat.le_refl _, Nat.le_refl _⟩ (Nat.le_of_ble_eq_true rfl) (b_rk47 γ) (fun v1 S1 I1 J1 hp => ?_)
      obtain ⟨rfl, rfl, rfl, rfl⟩ := hp
      show Rj _ _ _ _ _ _ (28, [some (.ref 95), some (.int 1), some (.int 18), some (.int (nI k)), none, none], [.int 1], (SS b false), X, J, 0, 0)
      refine r_ifc okX5_readSum rfl (fun (h28 : (1 : Int32) = (0 : Int32)) => ?_) (fun (h28 : ¬ (1 : Int32) = (0 : Int32)) => ?_)
      · exact absurd h28 (by decide)
      · refine r_run okX5_readSum 5 (cs := []) (σ' := (41, [some (.ref 95), some (.int 1), some (.int 18), some (.int (nI k)), some (.int (X 95 7)), none], [.int 43, .int (X 95 7)], (SS b false), X, J, 0, 0)) rfl trivial ?_
        simp only [e7]
        show Rj _ _ _ _ _ _ (41, [some (.ref 95), some (.int 1), some (.int 18), some (.int (nI k)), some (.int 47), none], [.int 43, .int 47], (SS b false), X, J, 0, 0)
        refine r_icmp okX5_readSum rfl (fun (h41 : (47 : Int32) = (43 : Int32)) => ?_) (fun (h41 : ¬ (47 : Int32) = (43 : Int32)) => ?_)
        · exact absurd h41 (by decide)
        · refine r_run okX5_readSum 2 (cs := []) (σ' := (48, [some (.ref 95), some (.int 1), some (.int 18), some (.int (nI k)), some (.int 47), none], [.int 45, .int 47], (SS b false), X, J, 0, 0)) rfl trivial ?_
          refine r_icmp okX5_readSum rfl (fun (h48 : ¬ (47 : Int32) = (45 : Int32)) => ?_) (fun h480 => ?_)
          · refine r_run okX5_readSum 3 (cs := []) (σ' := (60, [some (.ref 95), some (.int 1), some (.int 18), some (.int (nI k)), some (.int 47), some (.int 0)], [.int 0], (SS b false), X, J, 0, 0)) rfl trivial ?_
            refine r_ifc okX5_readSum rfl (fun (h60 : (0 : Int32) = (0 : Int32)) => ?_) (fun (h60 : ¬ (0 : Int32) = (0 : Int32)) => ?_)
            · refine r_run okX5_readSum 1 (cs := []) (σ' := (80, [some (.ref 95), some (.int 1), some (.int 18), some (.int (nI k)), some (.int 47), some (.int 0)], [.ref 95], (SS b false), X, J, 0, 0)) rfl trivial ?_
              refine r_callV okX5_readSum okX5_advance [] [] 95 rfl rfl rfl kkX5_advance rfl rfl (by decide) rfl rfl rfl (by decide) ⟨Nat.le_refl _, Nat.le_refl _⟩ (Nat.le_of_ble_eq_true rfl) (b_adv87 γ hT hP hi) (fun v1 S1 I1 J1 hp => ?_)
              obtain ⟨rfl, rfl, ⟨fXa, pXa⟩, rfl⟩ := hp
              obtain ⟨Xa, eXa⟩ : ∃ z, z = I1 := ⟨_, rfl⟩
              subst eXa
              have hTa : Tkn T n N Xa := Tkn_k (A := 87) (by decide) (f9_X fXa) hT
              have hOa := OuO_9 (by decide) fXa hO
              have hfa : fr (qX 87) X0 Xa := fr_t hf (f9_X fXa)
              show Rj _ _ _ _ _ _ (83, [some (.ref 95), some (.int 1), some (.int 18), some (.int (nI k)), some (.int 47), some (.int 0)], [], (SS b false), Xa, J, 0, 0)
              refine r_run okX5_readSum 2 (cs := []) (σ' := (87, [some (.ref 95), some (.int 1), some (.int 18), some (.int (nI k)), some (.int 47), some (.int 0)], [.int 47, .int 47], (SS b false), Xa, J, 0, 0)) rfl trivial ?_
              refine r_icmp okX5_readSum rfl (fun (h87 : ¬ (47 : Int32) = (47 : Int32)) => ?_) (fun h870 => ?_)
              · exact absurd h87 (by decide)
              · have h87 : (47 : Int32) = (47 : Int32) := Classical.not_not.mp h870
                refine r_run okX5_readSum 1 (cs := []) (σ' := (91, [some (.ref 95), some (.int 1), some (.int 18), some (.int (nI k)), some (.int 47), some (.int 0)], [.ref 95], (SS b false), Xa, J, 0, 0)) rfl trivial ?_
                refine r_callV okX5_readSum okX5_readDivisor [] [] 95 rfl rfl rfl kkX5_readDivisor rfl rfl (by decide) rfl rfl rfl (by decide) ⟨Nat.le_refl _, Nat.le_refl _⟩ (Nat.le_of_ble_eq_true rfl) (b_div87 γ hTa pXa hOa (by simp only [List.length_append, List.length_cons, List.length_nil] at *; omega)) (fun v1 S1 I1 J1 hp => ?_)
                obtain ⟨rfl, rfl, hfr, hr⟩ := hp
                obtain ⟨Xu, eXu⟩ : ∃ z, z = I1 := ⟨_, rfl⟩
                subst eXu
                cases hu : dR T n (i + 1) with
                | inl e =>
                  rw [hu] at hr
                  obtain ⟨rfl, gF, gE⟩ := hr
                  have hfu : fr (qX 87) X0 Xu := fr_t hfa hfr
                  have hs : SmT T n 1 none i acc (.inl e) := by
                    unfold SmT; rw [if_neg (by rw [h]; decide), if_neg (by rw [h]; decide), if_pos h]; unfold dR at hu
                    split at hu
                    · rename_i z1; rw [if_pos z1]; split at hu
                      · rename_i z2; rw [if_pos z2]; cases hu; rfl
                      · cases hu
                    · rename_i z1; rw [if_neg z1]; cases hu; rfl
                  show Rj _ _ _ _ _ _ (94, [some (.ref 95), some (.int 1), some (.int 18), some (.int (nI k)), some (.int 47), some (.int 0)], [.int 0], (SS b false), Xu, J, 0, 0)
                  refine r_run okX5_readSum 3 (cs := []) (σ' := (104, [some (.ref 95), some (.int 0), some (.int 18), some (.int (nI k)), some (.int 47), some (.int 0)], [.int 0], (SS b false), Xu, J, 0, 0)) rfl trivial ?_
                  refine r_ifc okX5_readSum rfl (fun (h104 : (0 : Int32) = (0 : Int32)) => ?_) (fun (h104 : ¬ (0 : Int32) = (0 : Int32)) => ?_)
                  · refine r_run okX5_readSum 2 (cs := []) (σ' := (117, [some (.ref 95), some (.int 0), some (.int 18), some (.int (nI k)), some (.int 47), some (.int 0)], [.int 42, .int 47], (SS b false), Xu, J, 0, 0)) rfl trivial ?_
                    refine r_icmp okX5_readSum rfl (fun (h117 : ¬ (47 : Int32) = (42 : Int32)) => ?_) (fun h1170 => ?_)
                    · refine r_run okX5_readSum 4 (cs := []) (σ' := (14, [some (.ref 95), some (.int 0), some (.int 18), some (.int ((nI k) + 1)), some (.int 47), some (.int 0)], [.int 800, .int ((nI k) + 1)], (SS b false), Xu, J, 0, 0)) rfl trivial ?_
                      refine r_icmp okX5_readSum rfl (fun (h14_1 : (800 : Int32) ≤ ((nI k) + 1)) => ?_) (fun (h14_1 : ¬ (800 : Int32) ≤ ((nI k) + 1)) => ?_)
                      · refine r_run okX5_readSum 2 (cs := []) (σ' := (140, [some (.ref 95), some (.int 0), some (.int 18), some (.int ((nI k) + 1)), some (.int 47), some (.int 0)], [.int 18, .int 18], (SS b false), Xu, J, 0, 0)) rfl trivial ?_
                        refine r_icmp okX5_readSum rfl (fun (h140 : (18 : Int32) = (18 : Int32)) => ?_) (fun (h140 : ¬ (18 : Int32) = (18 : Int32)) => ?_)
                        · refine r_run okX5_readSum 1 (cs := []) (σ' := (154, [some (.ref 95), some (.int 0), some (.int 18), some (.int ((nI k) + 1)), some (.int 47), some (.int 0)], [.int 0], (SS b false), Xu, J, 0, 0)) rfl trivial ?_
                          refine r_iret okX5_readSum rfl rfl (by decide +kernel) (Nat.le_refl _) (Nat.le_refl _) ?_
                          exact ⟨rfl, rfl, .inl e, hd _ ⟨1, hs⟩, hfu, rfl, gF, gE⟩
                        · exact absurd h140 (by decide)
                      · refine r_run okX5_readSum 1 (cs := []) (σ' := (18, [some (.ref 95), some (.int 0), some (.int 18), some (.int ((nI k) + 1)), some (.int 47), some (.int 0)], [.int 0], (SS b false), Xu, J, 0, 0)) rfl trivial ?_
                        refine r_ifc okX5_readSum rfl (fun (h18_1 : (0 : Int32) = (0 : Int32)) => ?_) (fun (h18_1 : ¬ (0 : Int32) = (0 : Int32)) => ?_)
                        · refine r_run okX5_readSum 2 (cs := []) (σ' := (140, [some (.ref 95), some (.int 0), some (.int 18), some (.int ((nI k) + 1)), some (.int 47), some (.int 0)], [.int 18, .int 18], (SS b false), Xu, J, 0, 0)) rfl trivial ?_
                          refine r_icmp okX5_readSum rfl (fun (h140_1 : (18 : Int32) = (18 : Int32)) => ?_) (fun (h140_1 : ¬ (18 : Int32) = (18 : Int32)) => ?_)
                          · refine r_run okX5_readSum 1 (cs := []) (σ' := (154, [some (.ref 95), some (.int 0), some (.int 18), some (.int ((nI k) + 1)), some (.int 47), some (.int 0)], [.int 0], (SS b false), Xu, J, 0, 0)) rfl trivial ?_
                            refine r_iret okX5_readSum rfl rfl (by decide +kernel) (Nat.le_refl _) (Nat.le_refl _) ?_
                            exact ⟨rfl, rfl, .inl e, hd _ ⟨1, hs⟩, hfu, rfl, gF, gE⟩
                          · exact absurd h140_1 (by decide)
                        · exact absurd h18_1 (by decide)
                    · have h117 : (47 : Int32) = (42 : Int32) := Classical.not_not.mp h1170
                      exact absurd h117 (by decide)
                  · exact absurd h104 (by decide)
                | inr q =>
                  rw [hu] at hr
                  obtain ⟨rfl, gP, gO⟩ := hr
                  have hq1 := dR_l1 hu
                  have hq2 := gP.1
                  show Rj _ _ _ _ _ _ (94, [some (.ref 95), some (.int 1), some (.int 18), some (.int (nI k)), some (.int 47), some (.int 0)], [.int 1], (SS b false), Xu, J, 0, 0)
                  refine r_run okX5_readSum 3 (cs := []) (σ' := (104, [some (.ref 95), some (.int 1), some (.int 18), some (.int (nI k)), some (.int 47), some (.int 0)], [.int 0], (SS b false), Xu, J, 0, 0)) rfl trivial ?_
                  refine r_ifc okX5_readSum rfl (fun (h104_1 : (0 : Int32) = (0 : Int32)) => ?_) (fun (h104_1 : ¬ (0 : Int32) = (0 : Int32)) => ?_)
                  · refine r_run okX5_readSum 2 (cs := []) (σ' := (117, [some (.ref 95), some (.int 1), some (.int 18), some (.int (nI k)), some (.int 47), some (.int 0)], [.int 42, .int 47], (SS b false), Xu, J, 0, 0)) rfl trivial ?_
                    refine r_icmp okX5_readSum rfl (fun (h117_1 : ¬ (47 : Int32) = (42 : Int32)) => ?_) (fun h117_10 => ?_)
                    · refine r_run okX5_readSum 2 (cs := []) (σ' := (10, [some (.ref 95), some (.int 1), some (.int 18), some (.int ((nI k) + 1)), some (.int 47), some (.int 0)], [], (SS b false), Xu, J, 0, 0)) rfl trivial ?_
                      rw [← nI_succ]
                      refine r_weak (L' := [some (.ref 95), some (.int 1), some (.int 18), some (.int (nI (k + 1))), none, none]) ⟨rfl, rfl, rfl, rfl, trivial⟩ ?_
                      refine K q _ hu (Tkn_k (A := 87) (by decide) hfr hTa) gP ?_ (fr_t hfa hfr)
                      rw [show l ++ (acc ++ q.1) = l ++ acc ++ q.1 by simp only [List.append_assoc]]
                      exact gO
                    · have h117_1 : (47 : Int32) = (42 : Int32) := Classical.not_not.mp h117_10
                      exact absurd h117_1 (by decide)
                  · exact absurd h104_1 (by decide)
            · exact absurd h60 (by decide)
          · have h48 : (47 : Int32) = (45 : Int32) := Classical.not_not.mp h480
            exact absurd h48 (by decide)
theorem sm_end1_87 (γ : GE) {b : Bool} {J : AJ} {T : Nat → Int32} {n N i0 : Nat} {l : Cd} {X0 : AI} {X : AI} {i k : Nat} {acc : Cd} (h1 : ¬ kK T n i = 43) (h2 : ¬ kK T n i = 45) (h3 : ¬ kK T n i = 42) (h4 : ¬ kK T n i = 47) (hT : Tkn T n N X) (hP : PsO T n N X i) (hO : OuO X 87 (l ++ acc)) (hl : (l ++ acc).length + (wC (some 2)).length ≤ i) (hk : k ≤ i) (hf : fr (qX 87) X0 X) (hd : ∀ res, (∃ f, SmT T n f (some 2) i acc res) → Sm T n i0 res) : Rj γ mX5_readSum 2 0 0 (fun r S' I' J' => (SS b false) = S' ∧ J = J' ∧ ∃ res, Sm T n i0 res ∧ RsO T n N 87 X0 l res r I') (10, [some (.ref 95), some (.int 1), some (.int 43), some (.int (nI k)), none, none], [], (SS b false), X, J, 0, 0) := by
  have hlw : (wC (some 2)).length = 1 := rfl
  have hN := hT.1
  have hiN := hP.1
  have e7 := hP.2.2.1
  have k800 : k ≤ 800 := by omega
  refine r_run okX5_readSum 2 (cs := []) (σ' := (14, [some (.ref 95), some (.int 1), some (.int 43), some (.int (nI k)), none, none], [.int 800, .int (nI k)], (SS b false), X, J, 0, 0)) rfl trivial ?_
  refine r_icmp okX5_readSum rfl (fun (h14 : (800 : Int32) ≤ (nI k)) => ?_) (fun (h14 : ¬ (800 : Int32) ≤ (nI k)) => ?_)
  · refine r_run okX5_readSum 2 (cs := []) (σ' := (140, [some (.ref 95), some (.int 1), some (.int 43), some (.int (nI k)), none, none], [.int 18, .int 43], (SS b false), X, J, 0, 0)) rfl trivial ?_
    refine r_icmp okX5_readSum rfl (fun (h140 : (43 : Int32) = (18 : Int32)) => ?_) (fun (h140 : ¬ (43 : Int32) = (18 : Int32)) => ?_)
    · exact absurd h140 (by decide)
    · refine r_run okX5_readSum 4 (cs := []) (σ' := (149, [some (.ref 95), some (.int 1), some (.int 43), some (.int (nI k)), none, none], [.int 0, .int 43, .ref 87], (SS b false), X, J, 0, 0)) rfl trivial ?_
      refine r_callV okX5_readSum okX6_add [.int 43, .int 0] [] 87 rfl rfl rfl kkX6_add rfl rfl (by decide) rfl rfl rfl (by decide) ⟨Nat.le_refl _, Nat.le_refl _⟩ (Nat.le_of_ble_eq_true rfl) (a_add87 γ hO (by simp only [List.length_append, List.length_cons, List.length_nil] at *; omega) (p := (2, 0)) rfl) (fun v1 S1 I1 J1 hp => ?_)
      obtain ⟨rfl, rfl, ⟨fXe, oXe⟩, rfl⟩ := hp
      obtain ⟨Xe, eXe⟩ : ∃ z, z = I1 := ⟨_, rfl⟩
      subst eXe
      show Rj _ _ _ _ _ _ (152, [some (.ref 95), some (.int 1), some (.int 43), some (.int (nI k)), none, none], [.int 1], (SS b false), Xe, J, 0, 0)
      refine r_run okX5_readSum 2 (cs := []) (σ' := (154, [some (.ref 95), some (.int 1), some (.int 43), some (.int (nI k)), none, none], [.int 1], (SS b false), Xe, J, 0, 0)) rfl trivial ?_
      refine r_iret okX5_readSum rfl rfl (by decide +kernel) (Nat.le_refl _) (Nat.le_refl _) ?_
      have hs : SmT T n 1 (some 2) i acc (.inr (acc ++ wC (some 2), i)) := by
        unfold SmT; rw [if_neg (fun z => z.elim h1 h2), if_neg h3, if_neg h4]
      exact ⟨rfl, rfl, _, hd _ ⟨1, hs⟩, fr_t hf (fA_X fXe), rfl, PsO_k (by decide) fXe hP, by show OuO Xe 87 (l ++ (acc ++ [(2, 0)])); rw [← List.append_assoc]; exact oXe⟩
  · refine r_run okX5_readSum 1 (cs := []) (σ' := (18, [some (.ref 95), some (.int 1), some (.int 43), some (.int (nI k)), none, none], [.int 1], (SS b false), X, J, 0, 0)) rfl trivial ?_
    refine r_ifc okX5_readSum rfl (fun (h18 : (1 : Int32) = (0 : Int32)) => ?_) (fun (h18 : ¬ (1 : Int32) = (0 : Int32)) => ?_)
    · exact absurd h18 (by decide)
    · refine r_run okX5_readSum 2 (cs := []) (σ' := (25, [some (.ref 95), some (.int 1), some (.int 43), some (.int (nI k)), none, none], [.int (X 95 7)], (SS b false), X, J, 0, 0)) rfl trivial ?_
      simp only [e7]
      show Rj _ _ _ _ _ _ (25, [some (.ref 95), some (.int 1), some (.int 43), some (.int (nI k)), none, none], [.int (kK T n i)], (SS b false), X, J, 0, 0)
      refine r_callS okX5_readSum okX5_isReckoning [.int (kK T n i)] [] rfl rfl rfl kkX5_isReckoning rfl rfl (by decide) (by decide) ⟨Nat.le_refl _, Nat.le_refl _⟩ (Nat.le_of_ble_eq_true rfl) (b_rkn γ h1 h2 h3 h4) (fun v1 S1 I1 J1 hp => ?_)
      obtain ⟨rfl, rfl, rfl, rfl⟩ := hp
      show Rj _ _ _ _ _ _ (28, [some (.ref 95), some (.int 1), some (.int 43), some (.int (nI k)), none, none], [.int 0], (SS b false), X, J, 0, 0)
      refine r_ifc okX5_readSum rfl (fun (h28 : (0 : Int32) = (0 : Int32)) => ?_) (fun (h28 : ¬ (0 : Int32) = (0 : Int32)) => ?_)
      · refine r_run okX5_readSum 2 (cs := []) (σ' := (140, [some (.ref 95), some (.int 1), some (.int 43), some (.int (nI k)), none, none], [.int 18, .int 43], (SS b false), X, J, 0, 0)) rfl trivial ?_
        refine r_icmp okX5_readSum rfl (fun (h140_1 : (43 : Int32) = (18 : Int32)) => ?_) (fun (h140_1 : ¬ (43 : Int32) = (18 : Int32)) => ?_)
        · exact absurd h140_1 (by decide)
        · refine r_run okX5_readSum 4 (cs := []) (σ' := (149, [some (.ref 95), some (.int 1), some (.int 43), some (.int (nI k)), none, none], [.int 0, .int 43, .ref 87], (SS b false), X, J, 0, 0)) rfl trivial ?_
          refine r_callV okX5_readSum okX6_add [.int 43, .int 0] [] 87 rfl rfl rfl kkX6_add rfl rfl (by decide) rfl rfl rfl (by decide) ⟨Nat.le_refl _, Nat.le_refl _⟩ (Nat.le_of_ble_eq_true rfl) (a_add87 γ hO (by simp only [List.length_append, List.length_cons, List.length_nil] at *; omega) (p := (2, 0)) rfl) (fun v1 S1 I1 J1 hp => ?_)
          obtain ⟨rfl, rfl, ⟨fXe, oXe⟩, rfl⟩ := hp
          obtain ⟨Xe, eXe⟩ : ∃ z, z = I1 := ⟨_, rfl⟩
          subst eXe
          show Rj _ _ _ _ _ _ (152, [some (.ref 95), some (.int 1), some (.int 43), some (.int (nI k)), none, none], [.int 1], (SS b false), Xe, J, 0, 0)
          refine r_run okX5_readSum 2 (cs := []) (σ' := (154, [some (.ref 95), some (.int 1), some (.int 43), some (.int (nI k)), none, none], [.int 1], (SS b false), Xe, J, 0, 0)) rfl trivial ?_
          refine r_iret okX5_readSum rfl rfl (by decide +kernel) (Nat.le_refl _) (Nat.le_refl _) ?_
          have hs : SmT T n 1 (some 2) i acc (.inr (acc ++ wC (some 2), i)) := by
            unfold SmT; rw [if_neg (fun z => z.elim h1 h2), if_neg h3, if_neg h4]
          exact ⟨rfl, rfl, _, hd _ ⟨1, hs⟩, fr_t hf (fA_X fXe), rfl, PsO_k (by decide) fXe hP, by show OuO Xe 87 (l ++ (acc ++ [(2, 0)])); rw [← List.append_assoc]; exact oXe⟩
      · exact absurd h28 (by decide)
theorem sm_43_1_87 (γ : GE) {b : Bool} {J : AJ} {T : Nat → Int32} {n N i0 : Nat} {l : Cd} {X0 : AI} {X : AI} {i k : Nat} {acc : Cd} (h : kK T n i = 43) (hT : Tkn T n N X) (hP : PsO T n N X i) (hO : OuO X 87 (l ++ acc)) (hl : (l ++ acc).length + (wC (some 2)).length ≤ i) (hk : k ≤ i) (hf : fr (qX 87) X0 X) (hd : ∀ res, (∃ f, SmT T n f (some 2) i acc res) → Sm T n i0 res) (K : ∀ (q : Cd × Nat) (Y : AI), uR T n (i + 1) = .inr q → Tkn T n N Y → PsO T n N Y q.2 → OuO Y 87 (l ++ (acc ++ wC (some 2) ++ q.1)) → fr (qX 87) X0 Y → Rj γ mX5_readSum 2 0 0 (fun r S' I' J' => (SS b false) = S' ∧ J = J' ∧ ∃ res, Sm T n i0 res ∧ RsO T n N 87 X0 l res r I') (10, [some (.ref 95), some (.int 1), some (.int 43), some (.int (nI (k + 1))), none, none], [], (SS b false), Y, J, 0, 0)) : Rj γ mX5_readSum 2 0 0 (fun r S' I' J' => (SS b false) = S' ∧ J = J' ∧ ∃ res, Sm T n i0 res ∧ RsO T n N 87 X0 l res r I') (10, [some (.ref 95), some (.int 1), some (.int 43), some (.int (nI k)), none, none], [], (SS b false), X, J, 0, 0) := by
  have hlw : (wC (some 2)).length = 1 := rfl
  have hN := hT.1
  have hiN := hP.1
  have e7 : X 95 7 = 43 := hP.2.2.1.trans h
  have hi : i < N := kK_lt hT hiN (by rw [h]; decide)
  refine r_run okX5_readSum 2 (cs := []) (σ' := (14, [some (.ref 95), some (.int 1), some (.int 43), some (.int (nI k)), none, none], [.int 800, .int (nI k)], (SS b false), X, J, 0, 0)) rfl trivial ?_
  refine r_icmp okX5_readSum rfl (fun (h14 : (800 : Int32) ≤ (nI k)) => ?_) (fun (h14 : ¬ (800 : Int32) ≤ (nI k)) => ?_)
  · exact absurd h14 (nI_ge (b := 800) (by omega) (by decide))
  · refine r_run okX5_readSum 1 (cs := []) (σ' := (18, [some (.ref 95), some (.int 1), some (.int 43), some (.int (nI k)), none, none], [.int 1], (SS b false), X, J, 0, 0)) rfl trivial ?_
    refine r_ifc okX5_readSum rfl (fun (h18 : (1 : Int32) = (0 : Int32)) => ?_) (fun (h18 : ¬ (1 : Int32) = (0 : Int32)) => ?_)
    · exact absurd h18 (by decide)
    · refine r_run okX5_readSum 2 (cs := []) (σ' := (25, [some (.ref 95), some (.int 1), some (.int 43), some (.int (nI k)), none, none], [.int (X 95 7)], (SS b false), X, J, 0, 0)) rfl trivial ?_
      simp only [e7]
      show Rj _ _ _ _ _ _ (25, [some (.ref 95), some (.int 1), some (.int 43), some (.int (nI k)), none, none], [.int 43], (SS b false), X, J, 0, 0)
      refine r_callS okX5_readSum okX5_isReckoning [.int 43] [] rfl rfl rfl kkX5_isReckoning rfl rfl (by decide) (by decide) ⟨Nat.le_refl _, Nat.le_refl _⟩ (Nat.le_of_ble_eq_true rfl) (b_rk43 γ) (fun v1 S1 I1 J1 hp => ?_)
      obtain ⟨rfl, rfl, rfl, rfl⟩ := hp
      show Rj _ _ _ _ _ _ (28, [some (.ref 95), some (.int 1), some (.int 43), some (.int (nI k)), none, none], [.int 1], (SS b false), X, J, 0, 0)
      refine r_ifc okX5_readSum rfl (fun (h28 : (1 : Int32) = (0 : Int32)) => ?_) (fun (h28 : ¬ (1 : Int32) = (0 : Int32)) => ?_)
      · exact absurd h28 (by decide)
      · refine r_run okX5_readSum 5 (cs := []) (σ' := (41, [some (.ref 95), some (.int 1), some (.int 43), some (.int (nI k)), some (.int (X 95 7)), none], [.int 43, .int (X 95 7)], (SS b false), X, J, 0, 0)) rfl trivial ?_
        simp only [e7]
        show Rj _ _ _ _ _ _ (41, [some (.ref 95), some (.int 1), some (.int 43), some (.int (nI k)), some (.int 43), none], [.int 43, .int 43], (SS b false), X, J, 0, 0)
        refine r_icmp okX5_readSum rfl (fun (h41 : (43 : Int32) = (43 : Int32)) => ?_) (fun (h41 : ¬ (43 : Int32) = (43 : Int32)) => ?_)
        · refine r_run okX5_readSum 4 (cs := []) (σ' := (60, [some (.ref 95), some (.int 1), some (.int 43), some (.int (nI k)), some (.int 43), some (.int 1)], [.int 1], (SS b false), X, J, 0, 0)) rfl trivial ?_
          refine r_ifc okX5_readSum rfl (fun (h60 : (1 : Int32) = (0 : Int32)) => ?_) (fun (h60 : ¬ (1 : Int32) = (0 : Int32)) => ?_)
          · exact absurd h60 (by decide)
          · refine r_run okX5_readSum 2 (cs := []) (σ' := (66, [some (.ref 95), some (.int 1), some (.int 43), some (.int (nI k)), some (.int 43), some (.int 1)], [.int 18, .int 43], (SS b false), X, J, 0, 0)) rfl trivial ?_
            refine r_icmp okX5_readSum rfl (fun (h66 : (43 : Int32) = (18 : Int32)) => ?_) (fun (h66 : ¬ (43 : Int32) = (18 : Int32)) => ?_)
            · exact absurd h66 (by decide)
            · refine r_run okX5_readSum 4 (cs := []) (σ' := (75, [some (.ref 95), some (.int 1), some (.int 43), some (.int (nI k)), some (.int 43), some (.int 1)], [.int 0, .int 43, .ref 87], (SS b false), X, J, 0, 0)) rfl trivial ?_
              refine r_callV okX5_readSum okX6_add [.int 43, .int 0] [] 87 rfl rfl rfl kkX6_add rfl rfl (by decide) rfl rfl rfl (by decide) ⟨Nat.le_refl _, Nat.le_refl _⟩ (Nat.le_of_ble_eq_true rfl) (a_add87 γ hO (by simp only [List.length_append, List.length_cons, List.length_nil] at *; omega) (p := (2, 0)) rfl) (fun v1 S1 I1 J1 hp => ?_)
              obtain ⟨rfl, rfl, ⟨fXw, oXw⟩, rfl⟩ := hp
              obtain ⟨Xw, eXw⟩ : ∃ z, z = I1 := ⟨_, rfl⟩
              subst eXw
              show Rj _ _ _ _ _ _ (78, [some (.ref 95), some (.int 1), some (.int 43), some (.int (nI k)), some (.int 43), some (.int 1)], [.int 1], (SS b false), Xw, J, 0, 0)
              refine r_run okX5_readSum 2 (cs := []) (σ' := (80, [some (.ref 95), some (.int 1), some (.int 43), some (.int (nI k)), some (.int 43), some (.int 1)], [.ref 95], (SS b false), Xw, J, 0, 0)) rfl trivial ?_
              refine r_callV okX5_readSum okX5_advance [] [] 95 rfl rfl rfl kkX5_advance rfl rfl (by decide) rfl rfl rfl (by decide) ⟨Nat.le_refl _, Nat.le_refl _⟩ (Nat.le_of_ble_eq_true rfl) (b_adv87 γ (Tkn_k (A := 87) (by decide) (fA_X fXw) hT) (PsO_k (by decide) fXw hP) hi) (fun v1 S1 I1 J1 hp => ?_)
              obtain ⟨rfl, rfl, ⟨fXa, pXa⟩, rfl⟩ := hp
              obtain ⟨Xa, eXa⟩ : ∃ z, z = I1 := ⟨_, rfl⟩
              subst eXa
              have hTa : Tkn T n N Xa := Tkn_k (A := 87) (by decide) (f9_X fXa) (Tkn_k (A := 87) (by decide) (fA_X fXw) hT)
              have hOa := OuO_9 (by decide) fXa oXw
              have hfa : fr (qX 87) X0 Xa := fr_t hf (fr_t (fA_X fXw) (f9_X fXa))
              show Rj _ _ _ _ _ _ (83, [some (.ref 95), some (.int 1), some (.int 43), some (.int (nI k)), some (.int 43), some (.int 1)], [], (SS b false), Xa, J, 0, 0)
              refine r_run okX5_readSum 2 (cs := []) (σ' := (87, [some (.ref 95), some (.int 1), some (.int 43), some (.int (nI k)), some (.int 43), some (.int 1)], [.int 47, .int 43], (SS b false), Xa, J, 0, 0)) rfl trivial ?_
              refine r_icmp okX5_readSum rfl (fun (h87 : ¬ (43 : Int32) = (47 : Int32)) => ?_) (fun h870 => ?_)
              · refine r_run okX5_readSum 1 (cs := []) (σ' := (98, [some (.ref 95), some (.int 1), some (.int 43), some (.int (nI k)), some (.int 43), some (.int 1)], [.ref 95], (SS b false), Xa, J, 0, 0)) rfl trivial ?_
                refine r_callV okX5_readSum okX5_readUnit [] [] 95 rfl rfl rfl kkX5_readUnit rfl rfl (by decide) rfl rfl rfl (by decide) ⟨Nat.le_refl _, Nat.le_refl _⟩ (Nat.le_of_ble_eq_true rfl) (b_unit87 γ hTa pXa hOa (by simp only [List.length_append, List.length_cons, List.length_nil] at *; omega)) (fun v1 S1 I1 J1 hp => ?_)
                obtain ⟨rfl, rfl, hfr, hr⟩ := hp
                obtain ⟨Xu, eXu⟩ : ∃ z, z = I1 := ⟨_, rfl⟩
                subst eXu
                cases hu : uR T n (i + 1) with
                | inl e =>
                  rw [hu] at hr
                  obtain ⟨rfl, gF, gE⟩ := hr
                  have hfu : fr (qX 87) X0 Xu := fr_t hfa hfr
                  have hs : SmT T n 1 (some 2) i acc (.inl e) := by unfold SmT; rw [if_pos (Or.inl h)]; simp only [hu]
                  show Rj _ _ _ _ _ _ (101, [some (.ref 95), some (.int 1), some (.int 43), some (.int (nI k)), some (.int 43), some (.int 1)], [.int 0], (SS b false), Xu, J, 0, 0)
                  refine r_run okX5_readSum 2 (cs := []) (σ' := (104, [some (.ref 95), some (.int 0), some (.int 43), some (.int (nI k)), some (.int 43), some (.int 1)], [.int 1], (SS b false), Xu, J, 0, 0)) rfl trivial ?_
                  refine r_ifc okX5_readSum rfl (fun (h104 : (1 : Int32) = (0 : Int32)) => ?_) (fun (h104 : ¬ (1 : Int32) = (0 : Int32)) => ?_)
                  · exact absurd h104 (by decide)
                  · refine r_run okX5_readSum 7 (cs := []) (σ' := (14, [some (.ref 95), some (.int 0), some (.int 43), some (.int ((nI k) + 1)), some (.int 43), some (.int 1)], [.int 800, .int ((nI k) + 1)], (SS b false), Xu, J, 0, 0)) rfl trivial ?_
                    refine r_icmp okX5_readSum rfl (fun (h14_1 : (800 : Int32) ≤ ((nI k) + 1)) => ?_) (fun (h14_1 : ¬ (800 : Int32) ≤ ((nI k) + 1)) => ?_)
                    · refine r_run okX5_readSum 2 (cs := []) (σ' := (140, [some (.ref 95), some (.int 0), some (.int 43), some (.int ((nI k) + 1)), some (.int 43), some (.int 1)], [.int 18, .int 43], (SS b false), Xu, J, 0, 0)) rfl trivial ?_
                      refine r_icmp okX5_readSum rfl (fun (h140 : (43 : Int32) = (18 : Int32)) => ?_) (fun (h140 : ¬ (43 : Int32) = (18 : Int32)) => ?_)
                      · exact absurd h140 (by decide)
                      · refine r_run okX5_readSum 4 (cs := []) (σ' := (149, [some (.ref 95), some (.int 0), some (.int 43), some (.int ((nI k) + 1)), some (.int 43), some (.int 1)], [.int 0, .int 43, .ref 87], (SS b false), Xu, J, 0, 0)) rfl trivial ?_
                        refine r_callV okX5_readSum okX6_add [.int 43, .int 0] [] 87 rfl rfl rfl kkX6_add rfl rfl (by decide) rfl rfl rfl (by decide) ⟨Nat.le_refl _, Nat.le_refl _⟩ (Nat.le_of_ble_eq_true rfl) (a_addF87 γ gF 43 0) (fun v1 S1 I1 J1 hp => ?_)
                        obtain ⟨⟨zXf1, rfl⟩, rfl, ⟨fXf1, oXf1⟩, rfl⟩ := hp
                        obtain ⟨Xf1, eXf1⟩ : ∃ z, z = I1 := ⟨_, rfl⟩
                        subst eXf1
                        show Rj _ _ _ _ _ _ (152, [some (.ref 95), some (.int 0), some (.int 43), some (.int ((nI k) + 1)), some (.int 43), some (.int 1)], [.int zXf1], (SS b false), Xf1, J, 0, 0)
                        refine r_run okX5_readSum 2 (cs := []) (σ' := (154, [some (.ref 95), some (.int 0), some (.int 43), some (.int ((nI k) + 1)), some (.int 43), some (.int 1)], [.int 0], (SS b false), Xf1, J, 0, 0)) rfl trivial ?_
                        refine r_iret okX5_readSum rfl rfl (by decide +kernel) (Nat.le_refl _) (Nat.le_refl _) ?_
                        exact ⟨rfl, rfl, .inl e, hd _ ⟨1, hs⟩, (fr_t hfu (fA_X fXf1)), rfl, oXf1, (FlO_k (by decide) fXf1 gE)⟩
                    · refine r_run okX5_readSum 1 (cs := []) (σ' := (18, [some (.ref 95), some (.int 0), some (.int 43), some (.int ((nI k) + 1)), some (.int 43), some (.int 1)], [.int 0], (SS b false), Xu, J, 0, 0)) rfl trivial ?_
                      refine r_ifc okX5_readSum rfl (fun (h18_1 : (0 : Int32) = (0 : Int32)) => ?_) (fun (h18_1 : ¬ (0 : Int32) = (0 : Int32)) => ?_)
                      · refine r_run okX5_readSum 2 (cs := []) (σ' := (140, [some (.ref 95), some (.int 0), some (.int 43), some (.int ((nI k) + 1)), some (.int 43), some (.int 1)], [.int 18, .int 43], (SS b false), Xu, J, 0, 0)) rfl trivial ?_
                        refine r_icmp okX5_readSum rfl (fun (h140_1 : (43 : Int32) = (18 : Int32)) => ?_) (fun (h140_1 : ¬ (43 : Int32) = (18 : Int32)) => ?_)
                        · exact absurd h140_1 (by decide)
                        · refine r_run okX5_readSum 4 (cs := []) (σ' := (149, [some (.ref 95), some (.int 0), some (.int 43), some (.int ((nI k) + 1)), some (.int 43), some (.int 1)], [.int 0, .int 43, .ref 87], (SS b false), Xu, J, 0, 0)) rfl trivial ?_
                          refine r_callV okX5_readSum okX6_add [.int 43, .int 0] [] 87 rfl rfl rfl kkX6_add rfl rfl (by decide) rfl rfl rfl (by decide) ⟨Nat.le_refl _, Nat.le_refl _⟩ (Nat.le_of_ble_eq_true rfl) (a_addF87 γ gF 43 0) (fun v1 S1 I1 J1 hp => ?_)
                          obtain ⟨⟨zXf1, rfl⟩, rfl, ⟨fXf1, oXf1⟩, rfl⟩ := hp
                          obtain ⟨Xf1, eXf1⟩ : ∃ z, z = I1 := ⟨_, rfl⟩
                          subst eXf1
                          show Rj _ _ _ _ _ _ (152, [some (.ref 95), some (.int 0), some (.int 43), some (.int ((nI k) + 1)), some (.int 43), some (.int 1)], [.int zXf1], (SS b false), Xf1, J, 0, 0)
                          refine r_run okX5_readSum 2 (cs := []) (σ' := (154, [some (.ref 95), some (.int 0), some (.int 43), some (.int ((nI k) + 1)), some (.int 43), some (.int 1)], [.int 0], (SS b false), Xf1, J, 0, 0)) rfl trivial ?_
                          refine r_iret okX5_readSum rfl rfl (by decide +kernel) (Nat.le_refl _) (Nat.le_refl _) ?_
                          exact ⟨rfl, rfl, .inl e, hd _ ⟨1, hs⟩, (fr_t hfu (fA_X fXf1)), rfl, oXf1, (FlO_k (by decide) fXf1 gE)⟩
                      · exact absurd h18_1 (by decide)
                | inr q =>
                  rw [hu] at hr
                  obtain ⟨rfl, gP, gO⟩ := hr
                  have hq1 := uR_l1 hu
                  have hq2 := gP.1
                  show Rj _ _ _ _ _ _ (101, [some (.ref 95), some (.int 1), some (.int 43), some (.int (nI k)), some (.int 43), some (.int 1)], [.int 1], (SS b false), Xu, J, 0, 0)
                  refine r_run okX5_readSum 2 (cs := []) (σ' := (104, [some (.ref 95), some (.int 1), some (.int 43), some (.int (nI k)), some (.int 43), some (.int 1)], [.int 1], (SS b false), Xu, J, 0, 0)) rfl trivial ?_
                  refine r_ifc okX5_readSum rfl (fun (h104_1 : (1 : Int32) = (0 : Int32)) => ?_) (fun (h104_1 : ¬ (1 : Int32) = (0 : Int32)) => ?_)
                  · exact absurd h104_1 (by decide)
                  · refine r_run okX5_readSum 5 (cs := []) (σ' := (10, [some (.ref 95), some (.int 1), some (.int 43), some (.int ((nI k) + 1)), some (.int 43), some (.int 1)], [], (SS b false), Xu, J, 0, 0)) rfl trivial ?_
                    rw [← nI_succ]
                    refine r_weak (L' := [some (.ref 95), some (.int 1), some (.int 43), some (.int (nI (k + 1))), none, none]) ⟨rfl, rfl, rfl, rfl, trivial⟩ ?_
                    refine K q _ hu (Tkn_k (A := 87) (by decide) hfr hTa) gP ?_ (fr_t hfa hfr)
                    rw [show l ++ (acc ++ wC (some 2) ++ q.1) = l ++ acc ++ wC (some 2) ++ q.1 by simp only [List.append_assoc]]
                    exact gO
              · have h87 : (43 : Int32) = (47 : Int32) := Classical.not_not.mp h870
                exact absurd h87 (by decide)
        · exact absurd h41 (by decide)
theorem sm_45_1_87 (γ : GE) {b : Bool} {J : AJ} {T : Nat → Int32} {n N i0 : Nat} {l : Cd} {X0 : AI} {X : AI} {i k : Nat} {acc : Cd} (h : kK T n i = 45) (hT : Tkn T n N X) (hP : PsO T n N X i) (hO : OuO X 87 (l ++ acc)) (hl : (l ++ acc).length + (wC (some 2)).length ≤ i) (hk : k ≤ i) (hf : fr (qX 87) X0 X) (hd : ∀ res, (∃ f, SmT T n f (some 2) i acc res) → Sm T n i0 res) (K : ∀ (q : Cd × Nat) (Y : AI), uR T n (i + 1) = .inr q → Tkn T n N Y → PsO T n N Y q.2 → OuO Y 87 (l ++ (acc ++ wC (some 2) ++ q.1)) → fr (qX 87) X0 Y → Rj γ mX5_readSum 2 0 0 (fun r S' I' J' => (SS b false) = S' ∧ J = J' ∧ ∃ res, Sm T n i0 res ∧ RsO T n N 87 X0 l res r I') (10, [some (.ref 95), some (.int 1), some (.int 45), some (.int (nI (k + 1))), none, none], [], (SS b false), Y, J, 0, 0)) : Rj γ mX5_readSum 2 0 0 (fun r S' I' J' => (SS b false) = S' ∧ J = J' ∧ ∃ res, Sm T n i0 res ∧ RsO T n N 87 X0 l res r I') (10, [some (.ref 95), some (.int 1), some (.int 43), some (.int (nI k)), none, none], [], (SS b false), X, J, 0, 0) := by
  have hlw : (wC (some 2)).length = 1 := rfl
  have hN := hT.1
  have hiN := hP.1
  have e7 : X 95 7 = 45 := hP.2.2.1.trans h
  have hi : i < N := kK_lt hT hiN (by rw [h]; decide)
  refine r_run okX5_readSum 2 (cs := []) (σ' := (14, [some (.ref 95), some (.int 1), some (.int 43), some (.int (nI k)), none, none], [.int 800, .int (nI k)], (SS b false), X, J, 0, 0)) rfl trivial ?_
  refine r_icmp okX5_readSum rfl (fun (h14 : (800 : Int32) ≤ (nI k)) => ?_) (fun (h14 : ¬ (800 : Int32) ≤ (nI k)) => ?_)
  · exact absurd h14 (nI_ge (b := 800) (by omega) (by decide))
  · refine r_run okX5_readSum 1 (cs := []) (σ' := (18, [some (.ref 95), some (.int 1), some (.int 43), some (.int (nI k)), none, none], [.int 1], (SS b false), X, J, 0, 0)) rfl trivial ?_
    refine r_ifc okX5_readSum rfl (fun (h18 : (1 : Int32) = (0 : Int32)) => ?_) (fun (h18 : ¬ (1 : Int32) = (0 : Int32)) => ?_)
    · exact absurd h18 (by decide)
    · refine r_run okX5_readSum 2 (cs := []) (σ' := (25, [some (.ref 95), some (.int 1), some (.int 43), some (.int (nI k)), none, none], [.int (X 95 7)], (SS b false), X, J, 0, 0)) rfl trivial ?_
      simp only [e7]
      show Rj _ _ _ _ _ _ (25, [some (.ref 95), some (.int 1), some (.int 43), some (.int (nI k)), none, none], [.int 45], (SS b false), X, J, 0, 0)
      refine r_callS okX5_readSum okX5_isReckoning [.int 45] [] rfl rfl rfl kkX5_isReckoning rfl rfl (by decide) (by decide) ⟨Nat.le_refl _, Nat.le_refl _⟩ (Nat.le_of_ble_eq_true rfl) (b_rk45 γ) (fun v1 S1 I1 J1 hp => ?_)
      obtain ⟨rfl, rfl, rfl, rfl⟩ := hp
      show Rj _ _ _ _ _ _ (28, [some (.ref 95), some (.int 1), some (.int 43), some (.int (nI k)), none, none], [.int 1], (SS b false), X, J, 0, 0)
      refine r_ifc okX5_readSum rfl (fun (h28 : (1 : Int32) = (0 : Int32)) => ?_) (fun (h28 : ¬ (1 : Int32) = (0 : Int32)) => ?_)
      · exact absurd h28 (by decide)
      · refine r_run okX5_readSum 5 (cs := []) (σ' := (41, [some (.ref 95), some (.int 1), some (.int 43), some (.int (nI k)), some (.int (X 95 7)), none], [.int 43, .int (X 95 7)], (SS b false), X, J, 0, 0)) rfl trivial ?_
        simp only [e7]
        show Rj _ _ _ _ _ _ (41, [some (.ref 95), some (.int 1), some (.int 43), some (.int (nI k)), some (.int 45), none], [.int 43, .int 45], (SS b false), X, J, 0, 0)
        refine r_icmp okX5_readSum rfl (fun (h41 : (45 : Int32) = (43 : Int32)) => ?_) (fun (h41 : ¬ (45 : Int32) = (43 : Int32)) => ?_)
        · exact absurd h41 (by decide)
        · refine r_run okX5_readSum 2 (cs := []) (σ' := (48, [some (.ref 95), some (.int 1), some (.int 43), some (.int (nI k)), some (.int 45), none], [.int 45, .int 45], (SS b false), X, J, 0, 0)) rfl trivial ?_
          refine r_icmp okX5_readSum rfl (fun (h48 : ¬ (45 : Int32) = (45 : Int32)) => ?_) (fun h480 => ?_)
          · exact absurd h48 (by decide)
          · have h48 : (45 : Int32) = (45 : Int32) := Classical.not_not.mp h480
            refine r_run okX5_readSum 4 (cs := []) (σ' := (60, [some (.ref 95), some (.int 1), some (.int 43), some (.int (nI k)), some (.int 45), some (.int 1)], [.int 1], (SS b false), X, J, 0, 0)) rfl trivial ?_
            refine r_ifc okX5_readSum rfl (fun (h60 : (1 : Int32) = (0 : Int32)) => ?_) (fun (h60 : ¬ (1 : Int32) = (0 : Int32)) => ?_)
            · exact absurd h60 (by decide)
            · refine r_run okX5_readSum 2 (cs := []) (σ' := (66, [some (.ref 95), some (.int 1), some (.int 43), some (.int (nI k)), some (.int 45), some (.int 1)], [.int 18, .int 43], (SS b false), X, J, 0, 0)) rfl trivial ?_
              refine r_icmp okX5_readSum rfl (fun (h66 : (43 : Int32) = (18 : Int32)) => ?_) (fun (h66 : ¬ (43 : Int32) = (18 : Int32)) => ?_)
              · exact absurd h66 (by decide)
              · refine r_run okX5_readSum 4 (cs := []) (σ' := (75, [some (.ref 95), some (.int 1), some (.int 43), some (.int (nI k)), some (.int 45), some (.int 1)], [.int 0, .int 43, .ref 87], (SS b false), X, J, 0, 0)) rfl trivial ?_
                refine r_callV okX5_readSum okX6_add [.int 43, .int 0] [] 87 rfl rfl rfl kkX6_add rfl rfl (by decide) rfl rfl rfl (by decide) ⟨Nat.le_refl _, Nat.le_refl _⟩ (Nat.le_of_ble_eq_true rfl) (a_add87 γ hO (by simp only [List.length_append, List.length_cons, List.length_nil] at *; omega) (p := (2, 0)) rfl) (fun v1 S1 I1 J1 hp => ?_)
                obtain ⟨rfl, rfl, ⟨fXw, oXw⟩, rfl⟩ := hp
                obtain ⟨Xw, eXw⟩ : ∃ z, z = I1 := ⟨_, rfl⟩
                subst eXw
                show Rj _ _ _ _ _ _ (78, [some (.ref 95), some (.int 1), some (.int 43), some (.int (nI k)), some (.int 45), some (.int 1)], [.int 1], (SS b false), Xw, J, 0, 0)
                refine r_run okX5_readSum 2 (cs := []) (σ' := (80, [some (.ref 95), some (.int 1), some (.int 43), some (.int (nI k)), some (.int 45), some (.int 1)], [.ref 95], (SS b false), Xw, J, 0, 0)) rfl trivial ?_
                refine r_callV okX5_readSum okX5_advance [] [] 95 rfl rfl rfl kkX5_advance rfl rfl (by decide) rfl rfl rfl (by decide) ⟨Nat.le_refl _, Nat.le_refl _⟩ (Nat.le_of_ble_eq_true rfl) (b_adv87 γ (Tkn_k (A := 87) (by decide) (fA_X fXw) hT) (PsO_k (by decide) fXw hP) hi) (fun v1 S1 I1 J1 hp => ?_)
                obtain ⟨rfl, rfl, ⟨fXa, pXa⟩, rfl⟩ := hp
                obtain ⟨Xa, eXa⟩ : ∃ z, z = I1 := ⟨_, rfl⟩
                subst eXa
                have hTa : Tkn T n N Xa := Tkn_k (A := 87) (by decide) (f9_X fXa) (Tkn_k (A := 87) (by decide) (fA_X fXw) hT)
                have hOa := OuO_9 (by decide) fXa oXw
                have hfa : fr (qX 87) X0 Xa := fr_t hf (fr_t (fA_X fXw) (f9_X fXa))
                show Rj _ _ _ _ _ _ (83, [some (.ref 95), some (.int 1), some (.int 43), some (.int (nI k)), some (.int 45), some (.int 1)], [], (SS b false), Xa, J, 0, 0)
                refine r_run okX5_readSum 2 (cs := []) (σ' := (87, [some (.ref 95), some (.int 1), some (.int 43), some (.int (nI k)), some (.int 45), some (.int 1)], [.int 47, .int 45], (SS b false), Xa, J, 0, 0)) rfl trivial ?_
                refine r_icmp okX5_readSum rfl (fun (h87 : ¬ (45 : Int32) = (47 : Int32)) => ?_) (fun h870 => ?_)
                · refine r_run okX5_readSum 1 (cs := []) (σ' := (98, [some (.ref 95), some (.int 1), some (.int 43), some (.int (nI k)), some (.int 45), some (.int 1)], [.ref 95], (SS b false), Xa, J, 0, 0)) rfl trivial ?_
                  refine r_callV okX5_readSum okX5_readUnit [] [] 95 rfl rfl rfl kkX5_readUnit rfl rfl (by decide) rfl rfl rfl (by decide) ⟨Nat.le_refl _, Nat.le_refl _⟩ (Nat.le_of_ble_eq_true rfl) (b_unit87 γ hTa pXa hOa (by simp only [List.length_append, List.length_cons, List.length_nil] at *; omega)) (fun v1 S1 I1 J1 hp => ?_)
                  obtain ⟨rfl, rfl, hfr, hr⟩ := hp
                  obtain ⟨Xu, eXu⟩ : ∃ z, z = I1 := ⟨_, rfl⟩
                  subst eXu
                  cases hu : uR T n (i + 1) with
                  | inl e =>
                    rw [hu] at hr
                    obtain ⟨rfl, gF, gE⟩ := hr
                    have hfu : fr (qX 87) X0 Xu := fr_t hfa hfr
                    have hs : SmT T n 1 (some 2) i acc (.inl e) := by unfold SmT; rw [if_pos (Or.inr h)]; simp only [hu]
                    show Rj _ _ _ _ _ _ (101, [some (.ref 95), some (.int 1), some (.int 43), some (.int (nI k)), some (.int 45), some (.int 1)], [.int 0], (SS b false), Xu, J, 0, 0)
                    refine r_run okX5_readSum 2 (cs := []) (σ' := (104, [some (.ref 95), some (.int 0), some (.int 43), some (.int (nI k)), some (.int 45), some (.int 1)], [.int 1], (SS b false), Xu, J, 0, 0)) rfl trivial ?_
                    refine r_ifc okX5_readSum rfl (fun (h104 : (1 : Int32) = (0 : Int32)) => ?_) (fun (h104 : ¬ (1 : Int32) = (0 : Int32)) => ?_)
                    · exact absurd h104 (by decide)
                    · refine r_run okX5_readSum 7 (cs := []) (σ' := (14, [some (.ref 95), some (.int 0), some (.int 45), some (.int ((nI k) + 1)), some (.int 45), some (.int 1)], [.int 800, .int ((nI k) + 1)], (SS b false), Xu, J, 0, 0)) rfl trivial ?_
                      refine r_icmp okX5_readSum rfl (fun (h14_1 : (800 : Int32) ≤ ((nI k) + 1)) => ?_) (fun (h14_1 : ¬ (800 : Int32) ≤ ((nI k) + 1)) => ?_)
                      · refine r_run okX5_readSum 2 (cs := []) (σ' := (140, [some (.ref 95), some (.int 0), some (.int 45), some (.int ((nI k) + 1)), some (.int 45), some (.int 1)], [.int 18, .int 45], (SS b false), Xu, J, 0, 0)) rfl trivial ?_
                        refine r_icmp okX5_readSum rfl (fun (h140 : (45 : Int32) = (18 : Int32)) => ?_) (fun (h140 : ¬ (45 : Int32) = (18 : Int32)) => ?_)
                        · exact absurd h140 (by decide)
                        · refine r_run okX5_readSum 4 (cs := []) (σ' := (149, [some (.ref 95), some (.int 0), some (.int 45), some (.int ((nI k) + 1)), some (.int 45), some (.int 1)], [.int 0, .int 45, .ref 87], (SS b false), Xu, J, 0, 0)) rfl trivial ?_
                          refine r_callV okX5_readSum okX6_add [.int 45, .int 0] [] 87 rfl rfl rfl kkX6_add rfl rfl (by decide) rfl rfl rfl (by decide) ⟨Nat.le_refl _, Nat.le_refl _⟩ (Nat.le_of_ble_eq_true rfl) (a_addF87 γ gF 45 0) (fun v1 S1 I1 J1 hp => ?_)
                          obtain ⟨⟨zXf1, rfl⟩, rfl, ⟨fXf1, oXf1⟩, rfl⟩ := hp
                          obtain ⟨Xf1, eXf1⟩ : ∃ z, z = I1 := ⟨_, rfl⟩
                          subst eXf1
                          show Rj _ _ _ _ _ _ (152, [some (.ref 95), some (.int 0), some (.int 45), some (.int ((nI k) + 1)), some (.int 45), some (.int 1)], [.int zXf1], (SS b false), Xf1, J, 0, 0)
                          refine r_run okX5_readSum 2 (cs := []) (σ' := (154, [some (.ref 95), some (.int 0), some (.int 45), some (.int ((nI k) + 1)), some (.int 45), some (.int 1)], [.int 0], (SS b false), Xf1, J, 0, 0)) rfl trivial ?_
                          refine r_iret okX5_readSum rfl rfl (by decide +kernel) (Nat.le_refl _) (Nat.le_refl _) ?_
                          exact ⟨rfl, rfl, .inl e, hd _ ⟨1, hs⟩, (fr_t hfu (fA_X fXf1)), rfl, oXf1, (FlO_k (by decide) fXf1 gE)⟩
                      · refine r_run okX5_readSum 1 (cs := []) (σ' := (18, [some (.ref 95), some (.int 0), some (.int 45), some (.int ((nI k) + 1)), some (.int 45), some (.int 1)], [.int 0], (SS b false), Xu, J, 0, 0)) rfl trivial ?_
                        refine r_ifc okX5_readSum rfl (fun (h18_1 : (0 : Int32) = (0 : Int32)) => ?_) (fun (h18_1 : ¬ (0 : Int32) = (0 : Int32)) => ?_)
                        · refine r_run okX5_readSum 2 (cs := []) (σ' := (140, [some (.ref 95), some (.int 0), some (.int 45), some (.int ((nI k) + 1)), some (.int 45), some (.int 1)], [.int 18, .int 45], (SS b false), Xu, J, 0, 0)) rfl trivial ?_
                          refine r_icmp okX5_readSum rfl (fun (h140_1 : (45 : Int32) = (18 : Int32)) => ?_) (fun (h140_1 : ¬ (45 : Int32) = (18 : Int32)) => ?_)
                          · exact absurd h140_1 (by decide)
                          · refine r_run okX5_readSum 4 (cs := []) (σ' := (149, [some (.ref 95), some (.int 0), some (.int 45), some (.int ((nI k) + 1)), some (.int 45), some (.int 1)], [.int 0, .int 45, .ref 87], (SS b false), Xu, J, 0, 0)) rfl trivial ?_
                            refine r_callV okX5_readSum okX6_add [.int 45, .int 0] [] 87 rfl rfl rfl kkX6_add rfl rfl (by decide) rfl rfl rfl (by decide) ⟨Nat.le_refl _, Nat.le_refl _⟩ (Nat.le_of_ble_eq_true rfl) (a_addF87 γ gF 45 0) (fun v1 S1 I1 J1 hp => ?_)
                            obtain ⟨⟨zXf1, rfl⟩, rfl, ⟨fXf1, oXf1⟩, rfl⟩ := hp
                            obtain ⟨Xf1, eXf1⟩ : ∃ z, z = I1 := ⟨_, rfl⟩
                            subst eXf1
                            show Rj _ _ _ _ _ _ (152, [some (.ref 95), some (.int 0), some (.int 45), some (.int ((nI k) + 1)), some (.int 45), some (.int 1)], [.int zXf1], (SS b false), Xf1, J, 0, 0)
                            refine r_run okX5_readSum 2 (cs := []) (σ' := (154, [some (.ref 95), some (.int 0), some (.int 45), some (.int ((nI k) + 1)), some (.int 45), some (.int 1)], [.int 0], (SS b false), Xf1, J, 0, 0)) rfl trivial ?_
                            refine r_iret okX5_readSum rfl rfl (by decide +kernel) (Nat.le_refl _) (Nat.le_refl _) ?_
                            exact ⟨rfl, rfl, .inl e, hd _ ⟨1, hs⟩, (fr_t hfu (fA_X fXf1)), rfl, oXf1, (FlO_k (by decide) fXf1 gE)⟩
                        · exact absurd h18_1 (by decide)
                  | inr q =>
                    rw [hu] at hr
                    obtain ⟨rfl, gP, gO⟩ := hr
                    have hq1 := uR_l1 hu
                    have hq2 := gP.1
                    show Rj _ _ _ _ _ _ (101, [some (.ref 95), some (.int 1), some (.int 43), some (.int (nI k)), some (.int 45), some (.int 1)], [.int 1], (SS b false), Xu, J, 0, 0)
                    refine r_run okX5_readSum 2 (cs := []) (σ' := (104, [some (.ref 95), some (.int 1), some (.int 43), some (.int (nI k)), some (.int 45), some (.int 1)], [.int 1], (SS b false), Xu, J, 0, 0)) rfl trivial ?_
                    refine r_ifc okX5_readSum rfl (fun (h104_1 : (1 : Int32) = (0 : Int32)) => ?_) (fun (h104_1 : ¬ (1 : Int32) = (0 : Int32)) => ?_)
                    · exact absurd h104_1 (by decide)
                    · refine r_run okX5_readSum 5 (cs := []) (σ' := (10, [some (.ref 95), some (.int 1), some (.int 45), some (.int ((nI k) + 1)), some (.int 45), some (.int 1)], [], (SS b false), Xu, J, 0, 0)) rfl trivial ?_
                      rw [← nI_succ]
                      refine r_weak (L' := [some (.ref 95), some (.int 1), some (.int 45), some (.int (nI (k + 1))), none, none]) ⟨rfl, rfl, rfl, rfl, trivial⟩ ?_
                      refine K q _ hu (Tkn_k (A := 87) (by decide) hfr hTa) gP ?_ (fr_t hfa hfr)
                      rw [show l ++ (acc ++ wC (some 2) ++ q.1) = l ++ acc ++ wC (some 2) ++ q.1 by simp only [List.append_assoc]]
                      exact gO
                · have h87 : (45 : Int32) = (47 : Int32) := Classical.not_not.mp h870
                  exact absurd h87 (by decide)
theorem sm_42_1_87 (γ : GE) {b : Bool} {J : AJ} {T : Nat → Int32} {n N i0 : Nat} {l : Cd} {X0 : AI} {X : AI} {i k : Nat} {acc : Cd} (h : kK T n i = 42) (hT : Tkn T n N X) (hP : PsO T n N X i) (hO : OuO X 87 (l ++ acc)) (hl : (l ++ acc).length + (wC (some 2)).length ≤ i) (hk : k ≤ i) (hf : fr (qX 87) X0 X) (hd : ∀ res, (∃ f, SmT T n f (some 2) i acc res) → Sm T n i0 res) (K : ∀ (q : Cd × Nat) (Y : AI), uR T n (i + 1) = .inr q → Tkn T n N Y → PsO T n N Y q.2 → OuO Y 87 (l ++ (acc ++ q.1 ++ [(4, 0)])) → fr (qX 87) X0 Y → Rj γ mX5_readSum 2 0 0 (fun r S' I' J' => (SS b false) = S' ∧ J = J' ∧ ∃ res, Sm T n i0 res ∧ RsO T n N 87 X0 l res r I') (10, [some (.ref 95), some (.int 1), some (.int 43), some (.int (nI (k + 1))), none, none], [], (SS b false), Y, J, 0, 0)) : Rj γ mX5_readSum 2 0 0 (fun r S' I' J' => (SS b false) = S' ∧ J = J' ∧ ∃ res, Sm T n i0 res ∧ RsO T n N 87 X0 l res r I') (10, [some (.ref 95), some (.int 1), some (.int 43), some (.int (nI k)), none, none], [], (SS b false), X, J, 0, 0) := by
  have hlw : (wC (some 2)).length = 1 := rfl
  have hN := hT.1
  have hiN := hP.1
  have e7 : X 95 7 = 42 := hP.2.2.1.trans h
  have hi : i < N := kK_lt hT hiN (by rw [h]; decide)
  refine r_run okX5_readSum 2 (cs := []) (σ' := (14, [some (.ref 95), some (.int 1), some (.int 43), some (.int (nI k)), none, none], [.int 800, .int (nI k)], (SS b false), X, J, 0, 0)) rfl trivial ?_
  refine r_icmp okX5_readSum rfl (fun (h14 : (800 : Int32) ≤ (nI k)) => ?_) (fun (h14 : ¬ (800 : Int32) ≤ (nI k)) => ?_)
  · exact absurd h14 (nI_ge (b := 800) (by omega) (by decide))
  · refine r_run okX5_readSum 1 (cs := []) (σ' := (18, [some (.ref 95), some (.int 1), some (.int 43), some (.int (nI k)), none, none], [.int 1], (SS b false), X, J, 0, 0)) rfl trivial ?_
    refine r_ifc okX5_readSum rfl (fun (h18 : (1 : Int32) = (0 : Int32)) => ?_) (fun (h18 : ¬ (1 : Int32) = (0 : Int32)) => ?_)
    · exact absurd h18 (by decide)
    · refine r_run okX5_readSum 2 (cs := []) (σ' := (25, [some (.ref 95), some (.int 1), some (.int 43), some (.int (nI k)), none, none], [.int (X 95 7)], (SS b false), X, J, 0, 0)) rfl trivial ?_
      simp only [e7]
      show Rj _ _ _ _ _ _ (25, [some (.ref 95), some (.int 1), some (.int 43), some (.int (nI k)), none, none], [.int 42], (SS b false), X, J, 0, 0)
      refine r_callS okX5_readSum okX5_isReckoning [.int 42] [] rfl rfl rfl kkX5_isReckoning rfl rfl (by decide) (by decide) ⟨Nat.le_refl _, Nat.le_refl _⟩ (Nat.le_of_ble_eq_true rfl) (b_rk42 γ) (fun v1 S1 I1 J1 hp => ?_)
      obtain ⟨rfl, rfl, rfl, rfl⟩ := hp
      show Rj _ _ _ _ _ _ (28, [some (.ref 95), some (.int 1), some (.int 43), some (.int (nI k)), none, none], [.int 1], (SS b false), X, J, 0, 0)
      refine r_ifc okX5_readSum rfl (fun (h28 : (1 : Int32) = (0 : Int32)) => ?_) (fun (h28 : ¬ (1 : Int32) = (0 : Int32)) => ?_)
      · exact absurd h28 (by decide)
      · refine r_run okX5_readSum 5 (cs := []) (σ' := (41, [some (.ref 95), some (.int 1), some (.int 43), some (.int (nI k)), some (.int (X 95 7)), none], [.int 43, .int (X 95 7)], (SS b false), X, J, 0, 0)) rfl trivial ?_
        simp only [e7]
        show Rj _ _ _ _ _ _ (41, [some (.ref 95), some (.int 1), some (.int 43), some (.int (nI k)), some (.int 42), none], [.int 43, .int 42], (SS b false), X, J, 0, 0)
        refine r_icmp okX5_readSum rfl (fun (h41 : (42 : Int32) = (43 : Int32)) => ?_) (fun (h41 : ¬ (42 : Int32) = (43 : Int32)) => ?_)
        · exact absurd h41 (by decide)
        · refine r_run okX5_readSum 2 (cs := []) (σ' := (48, [some (.ref 95), some (.int 1), some (.int 43), some (.int (nI k)), some (.int 42), none], [.int 45, .int 42], (SS b false), X, J, 0, 0)) rfl trivial ?_
          refine r_icmp okX5_readSum rfl (fun (h48 : ¬ (42 : Int32) = (45 : Int32)) => ?_) (fun h480 => ?_)
          · refine r_run okX5_readSum 3 (cs := []) (σ' := (60, [some (.ref 95), some (.int 1), some (.int 43), some (.int (nI k)), some (.int 42), some (.int 0)], [.int 0], (SS b false), X, J, 0, 0)) rfl trivial ?_
            refine r_ifc okX5_readSum rfl (fun (h60 : (0 : Int32) = (0 : Int32)) => ?_) (fun (h60 : ¬ (0 : Int32) = (0 : Int32)) => ?_)
            · refine r_run okX5_readSum 1 (cs := []) (σ' := (80, [some (.ref 95), some (.int 1), some (.int 43), some (.int (nI k)), some (.int 42), some (.int 0)], [.ref 95], (SS b false), X, J, 0, 0)) rfl trivial ?_
              refine r_callV okX5_readSum okX5_advance [] [] 95 rfl rfl rfl kkX5_advance rfl rfl (by decide) rfl rfl rfl (by decide) ⟨Nat.le_refl _, Nat.le_refl _⟩ (Nat.le_of_ble_eq_true rfl) (b_adv87 γ hT hP hi) (fun v1 S1 I1 J1 hp => ?_)
              obtain ⟨rfl, rfl, ⟨fXa, pXa⟩, rfl⟩ := hp
              obtain ⟨Xa, eXa⟩ : ∃ z, z = I1 := ⟨_, rfl⟩
              subst eXa
              have hTa : Tkn T n N Xa := Tkn_k (A := 87) (by decide) (f9_X fXa) hT
              have hOa := OuO_9 (by decide) fXa hO
              have hfa : fr (qX 87) X0 Xa := fr_t hf (f9_X fXa)
              show Rj _ _ _ _ _ _ (83, [some (.ref 95), some (.int 1), some (.int 43), some (.int (nI k)), some (.int 42), some (.int 0)], [], (SS b false), Xa, J, 0, 0)
              refine r_run okX5_readSum 2 (cs := []) (σ' := (87, [some (.ref 95), some (.int 1), some (.int 43), some (.int (nI k)), some (.int 42), some (.int 0)], [.int 47, .int 42], (SS b false), Xa, J, 0, 0)) rfl trivial ?_
              refine r_icmp okX5_readSum rfl (fun (h87 : ¬ (42 : Int32) = (47 : Int32)) => ?_) (fun h870 => ?_)
              · refine r_run okX5_readSum 1 (cs := []) (σ' := (98, [some (.ref 95), some (.int 1), some (.int 43), some (.int (nI k)), some (.int 42), some (.int 0)], [.ref 95], (SS b false), Xa, J, 0, 0)) rfl trivial ?_
                refine r_callV okX5_readSum okX5_readUnit [] [] 95 rfl rfl rfl kkX5_readUnit rfl rfl (by decide) rfl rfl rfl (by decide) ⟨Nat.le_refl _, Nat.le_refl _⟩ (Nat.le_of_ble_eq_true rfl) (b_unit87 γ hTa pXa hOa (by simp only [List.length_append, List.length_cons, List.length_nil] at *; omega)) (fun v1 S1 I1 J1 hp => ?_)
                obtain ⟨rfl, rfl, hfr, hr⟩ := hp
                obtain ⟨Xu, eXu⟩ : ∃ z, z = I1 := ⟨_, rfl⟩
                subst eXu
                cases hu : uR T n (i + 1) with
                | inl e =>
                  rw [hu] at hr
                  obtain ⟨rfl, gF, gE⟩ := hr
                  have hfu : fr (qX 87) X0 Xu := fr_t hfa hfr
                  have hs : SmT T n 1 (some 2) i acc (.inl e) := by unfold SmT; rw [if_neg (by rw [h]; decide), if_pos h]; simp only [hu]
                  show Rj _ _ _ _ _ _ (101, [some (.ref 95), some (.int 1), some (.int 43), some (.int (nI k)), some (.int 42), some (.int 0)], [.int 0], (SS b false), Xu, J, 0, 0)
                  refine r_run okX5_readSum 2 (cs := []) (σ' := (104, [some (.ref 95), some (.int 0), some (.int 43), some (.int (nI k)), some (.int 42), some (.int 0)], [.int 0], (SS b false), Xu, J, 0, 0)) rfl trivial ?_
                  refine r_ifc okX5_readSum rfl (fun (h104 : (0 : Int32) = (0 : Int32)) => ?_) (fun (h104 : ¬ (0 : Int32) = (0 : Int32)) => ?_)
                  · refine r_run okX5_readSum 2 (cs := []) (σ' := (117, [some (.ref 95), some (.int 0), some (.int 43), some (.int (nI k)), some (.int 42), some (.int 0)], [.int 42, .int 42], (SS b false), Xu, J, 0, 0)) rfl trivial ?_
                    refine r_icmp okX5_readSum rfl (fun (h117 : ¬ (42 : Int32) = (42 : Int32)) => ?_) (fun h1170 => ?_)
                    · exact absurd h117 (by decide)
                    · have h117 : (42 : Int32) = (42 : Int32) := Classical.not_not.mp h1170
                      refine r_run okX5_readSum 4 (cs := []) (σ' := (127, [some (.ref 95), some (.int 0), some (.int 43), some (.int (nI k)), some (.int 42), some (.int 0)], [.int 0, .int 42, .ref 87], (SS b false), Xu, J, 0, 0)) rfl trivial ?_
                      refine r_callV okX5_readSum okX6_add [.int 42, .int 0] [] 87 rfl rfl rfl kkX6_add rfl rfl (by decide) rfl rfl rfl (by decide) ⟨Nat.le_refl _, Nat.le_refl _⟩ (Nat.le_of_ble_eq_true rfl) (a_addF87 γ gF 42 0) (fun v1 S1 I1 J1 hp => ?_)
                      obtain ⟨⟨zXf1, rfl⟩, rfl, ⟨fXf1, oXf1⟩, rfl⟩ := hp
                      obtain ⟨Xf1, eXf1⟩ : ∃ z, z = I1 := ⟨_, rfl⟩
                      subst eXf1
                      show Rj _ _ _ _ _ _ (130, [some (.ref 95), some (.int 0), some (.int 43), some (.int (nI k)), some (.int 42), some (.int 0)], [.int zXf1], (SS b false), Xf1, J, 0, 0)
                      refine r_run okX5_readSum 5 (cs := []) (σ' := (14, [some (.ref 95), some (.int 0), some (.int 43), some (.int ((nI k) + 1)), some (.int 42), some (.int 0)], [.int 800, .int ((nI k) + 1)], (SS b false), Xf1, J, 0, 0)) rfl trivial ?_
                      refine r_icmp okX5_readSum rfl (fun (h14_1 : (800 : Int32) ≤ ((nI k) + 1)) => ?_) (fun (h14_1 : ¬ (800 : Int32) ≤ ((nI k) + 1)) => ?_)
                      · refine r_run okX5_readSum 2 (cs := []) (σ' := (140, [some (.ref 95), some (.int 0), some (.int 43), some (.int ((nI k) + 1)), some (.int 42), some (.int 0)], [.int 18, .int 43], (SS b false), Xf1, J, 0, 0)) rfl trivial ?_
                        refine r_icmp okX5_readSum rfl (fun (h140 : (43 : Int32) = (18 : Int32)) => ?_) (fun (h140 : ¬ (43 : Int32) = (18 : Int32)) => ?_)
                        · exact absurd h140 (by decide)
                        · refine r_run okX5_readSum 4 (cs := []) (σ' := (149, [some (.ref 95), some (.int 0), some (.int 43), some (.int ((nI k) + 1)), some (.int 42), some (.int 0)], [.int 0, .int 43, .ref 87], (SS b false), Xf1, J, 0, 0)) rfl trivial ?_
                          refine r_callV okX5_readSum okX6_add [.int 43, .int 0] [] 87 rfl rfl rfl kkX6_add rfl rfl (by decide) rfl rfl rfl (by decide) ⟨Nat.le_refl _, Nat.le_refl _⟩ (Nat.le_of_ble_eq_true rfl) (a_addF87 γ oXf1 43 0) (fun v1 S1 I1 J1 hp => ?_)
                          obtain ⟨⟨zXf2, rfl⟩, rfl, ⟨fXf2, oXf2⟩, rfl⟩ := hp
                          obtain ⟨Xf2, eXf2⟩ : ∃ z, z = I1 := ⟨_, rfl⟩
                          subst eXf2
                          show Rj _ _ _ _ _ _ (152, [some (.ref 95), some (.int 0), some (.int 43), some (.int ((nI k) + 1)), some (.int 42), some (.int 0)], [.int zXf2], (SS b false), Xf2, J, 0, 0)
                          refine r_run okX5_readSum 2 (cs := []) (σ' := (154, [some (.ref 95), some (.int 0), some (.int 43), some (.int ((nI k) + 1)), some (.int 42), some (.int 0)], [.int 0], (SS b false), Xf2, J, 0, 0)) rfl trivial ?_
                          refine r_iret okX5_readSum rfl rfl (by decide +kernel) (Nat.le_refl _) (Nat.le_refl _) ?_
                          exact ⟨rfl, rfl, .inl e, hd _ ⟨1, hs⟩, (fr_t (fr_t hfu (fA_X fXf1)) (fA_X fXf2)), rfl, oXf2, (FlO_k (by decide) fXf2 (FlO_k (by decide) fXf1 gE))⟩
                      · refine r_run okX5_readSum 1 (cs := []) (σ' := (18, [some (.ref 95), some (.int 0), some (.int 43), some (.int ((nI k) + 1)), some (.int 42), some (.int 0)], [.int 0], (SS b false), Xf1, J, 0, 0)) rfl trivial ?_
                        refine r_ifc okX5_readSum rfl (fun (h18_1 : (0 : Int32) = (0 : Int32)) => ?_) (fun (h18_1 : ¬ (0 : Int32) = (0 : Int32)) => ?_)
                        · refine r_run okX5_readSum 2 (cs := []) (σ' := (140, [some (.ref 95), some (.int 0), some (.int 43), some (.int ((nI k) + 1)), some (.int 42), some (.int 0)], [.int 18, .int 43], (SS b false), Xf1, J, 0, 0)) rfl trivial ?_
                          refine r_icmp okX5_readSum rfl (fun (h140_1 : (43 : Int32) = (18 : Int32)) => ?_) (fun (h140_1 : ¬ (43 : Int32) = (18 : Int32)) => ?_)
                          · exact absurd h140_1 (by decide)
                          · refine r_run okX5_readSum 4 (cs := []) (σ' := (149, [some (.ref 95), some (.int 0), some (.int 43), some (.int ((nI k) + 1)), some (.int 42), some (.int 0)], [.int 0, .int 43, .ref 87], (SS b false), Xf1, J, 0, 0)) rfl trivial ?_
                            refine r_callV okX5_readSum okX6_add [.int 43, .int 0] [] 87 rfl rfl rfl kkX6_add rfl rfl (by decide) rfl rfl rfl (by decide) ⟨Nat.le_refl _, Nat.le_refl _⟩ (Nat.le_of_ble_eq_true rfl) (a_addF87 γ oXf1 43 0) (fun v1 S1 I1 J1 hp => ?_)
                            obtain ⟨⟨zXf2, rfl⟩, rfl, ⟨fXf2, oXf2⟩, rfl⟩ := hp
                            obtain ⟨Xf2, eXf2⟩ : ∃ z, z = I1 := ⟨_, rfl⟩
                            subst eXf2
                            show Rj _ _ _ _ _ _ (152, [some (.ref 95), some (.int 0), some (.int 43), some (.int ((nI k) + 1)), some (.int 42), some (.int 0)], [.int zXf2], (SS b false), Xf2, J, 0, 0)
                            refine r_run okX5_readSum 2 (cs := []) (σ' := (154, [some (.ref 95), some (.int 0), some (.int 43), some (.int ((nI k) + 1)), some (.int 42), some (.int 0)], [.int 0], (SS b false), Xf2, J, 0, 0)) rfl trivial ?_
                            refine r_iret okX5_readSum rfl rfl (by decide +kernel) (Nat.le_refl _) (Nat.le_refl _) ?_
                            exact ⟨rfl, rfl, .inl e, hd _ ⟨1, hs⟩, (fr_t (fr_t hfu (fA_X fXf1)) (fA_X fXf2)), rfl, oXf2, (FlO_k (by decide) fXf2 (FlO_k (by decide) fXf1 gE))⟩
                        · exact absurd h18_1 (by decide)
                  · exact absurd h104 (by decide)
                | inr q =>
                  rw [hu] at hr
                  obtain ⟨rfl, gP, gO⟩ := hr
                  have hq1 := uR_l1 hu
                  have hq2 := gP.1
                  show Rj _ _ _ _ _ _ (101, [some (.ref 95), some (.int 1), some (.int 43), some (.int (nI k)), some (.int 42), some (.int 0)], [.int 1], (SS b false), Xu, J, 0, 0)
                  refine r_run okX5_readSum 2 (cs := []) (σ' := (104, [some (.ref 95), some (.int 1), some (.int 43), some (.int (nI k)), some (.int 42), some (.int 0)], [.int 0], (SS b false), Xu, J, 0, 0)) rfl trivial ?_
                  refine r_ifc okX5_readSum rfl (fun (h104_1 : (0 : Int32) = (0 : Int32)) => ?_) (fun (h104_1 : ¬ (0 : Int32) = (0 : Int32)) => ?_)
                  · refine r_run okX5_readSum 2 (cs := []) (σ' := (117, [some (.ref 95), some (.int 1), some (.int 43), some (.int (nI k)), some (.int 42), some (.int 0)], [.int 42, .int 42], (SS b false), Xu, J, 0, 0)) rfl trivial ?_
                    refine r_icmp okX5_readSum rfl (fun (h117_1 : ¬ (42 : Int32) = (42 : Int32)) => ?_) (fun h117_10 => ?_)
                    · exact absurd h117_1 (by decide)
                    · have h117_1 : (42 : Int32) = (42 : Int32) := Classical.not_not.mp h117_10
                      refine r_run okX5_readSum 4 (cs := []) (σ' := (127, [some (.ref 95), some (.int 1), some (.int 43), some (.int (nI k)), some (.int 42), some (.int 0)], [.int 0, .int 42, .ref 87], (SS b false), Xu, J, 0, 0)) rfl trivial ?_
                      refine r_callV okX5_readSum okX6_add [.int 42, .int 0] [] 87 rfl rfl rfl kkX6_add rfl rfl (by decide) rfl rfl rfl (by decide) ⟨Nat.le_refl _, Nat.le_refl _⟩ (Nat.le_of_ble_eq_true rfl) (a_add87 γ gO (by simp only [List.length_append, List.length_cons, List.length_nil] at *; omega) (p := (4, 0)) rfl) (fun v1 S1 I1 J1 hp => ?_)
                      obtain ⟨rfl, rfl, ⟨fXg, oXg⟩, rfl⟩ := hp
                      obtain ⟨Xg, eXg⟩ : ∃ z, z = I1 := ⟨_, rfl⟩
                      subst eXg
                      show Rj _ _ _ _ _ _ (130, [some (.ref 95), some (.int 1), some (.int 43), some (.int (nI k)), some (.int 42), some (.int 0)], [.int 1], (SS b false), Xg, J, 0, 0)
                      refine r_run okX5_readSum 3 (cs := []) (σ' := (10, [some (.ref 95), some (.int 1), some (.int 43), some (.int ((nI k) + 1)), some (.int 42), some (.int 0)], [], (SS b false), Xg, J, 0, 0)) rfl trivial ?_
                      rw [← nI_succ]
                      refine r_weak (L' := [some (.ref 95), some (.int 1), some (.int 43), some (.int (nI (k + 1))), none, none]) ⟨rfl, rfl, rfl, rfl, trivial⟩ ?_
                      refine K q _ hu (Tkn_k (A := 87) (by decide) (fA_X fXg) (Tkn_k (A := 87) (by decide) hfr hTa)) (PsO_k (by decide) fXg gP) ?_ (fr_t (fr_t hfa hfr) (fA_X fXg))
                      rw [show l ++ (acc ++ q.1 ++ [(4, 0)]) = l ++ acc ++ q.1 ++ [(4, 0)] by simp only [List.append_assoc]]
                      exact oXg
                  · exact absurd h104_1 (by decide)
              · have h87 : (42 : Int32) = (47 : Int32) := Classical.not_not.mp h870
                exact absurd h87 (by decide)
            · exact absurd h60 (by decide)
          · have h48 : (42 : Int32) = (45 : Int32) := Classical.not_not.mp h480
            exact absurd h48 (by decide)
theorem sm_47_1_87 (γ : GE) {b : Bool} {J : AJ} {T : Nat → Int32} {n N i0 : Nat} {l : Cd} {X0 : AI} {X : AI} {i k : Nat} {acc : Cd} (h : kK T n i = 47) (hT : Tkn T n N X) (hP : PsO T n N X i) (hO : OuO X 87 (l ++ acc)) (hl : (l ++ acc).length + (wC (some 2)).length ≤ i) (hk : k ≤ i) (hf : fr (qX 87) X0 X) (hd : ∀ res, (∃ f, SmT T n f (some 2) i acc res) → Sm T n i0 res) (K : ∀ (q : Cd × Nat) (Y : AI), dR T n (i + 1) = .inr q → Tkn T n N Y → PsO T n N Y q.2 → OuO Y 87 (l ++ (acc ++ q.1)) → fr (qX 87) X0 Y → Rj γ mX5_readSum 2 0 0 (fun r S' I' J' => (SS b false) = S' ∧ J = J' ∧ ∃ res, Sm T n i0 res ∧ RsO T n N 87 X0 l res r I') (10, [some (.ref 95), some (.int 1), some (.int 43), some (.int (nI (k + 1))), none, none], [], (SS b false), Y, J, 0, 0)) : Rj γ mX5_readSum 2 0 0 (fun r S' I' J' => (SS b false) = S' ∧ J = J' ∧ ∃ res, Sm T n i0 res ∧ RsO T n N 87 X0 l res r I') (10, [some (.ref 95), some (.int 1), some (.int 43), some (.int (nI k)), none, none], [], (SS b false), X, J, 0, 0) := by
  have hlw : (wC (some 2)).length = 1 := rfl
  have hN := hT.1
  have hiN := hP.1
  have e7 : X 95 7 = 47 := hP.2.2.1.trans h
  have hi : i < N := kK_lt hT hiN (by rw [h]; decide)
  refine r_run okX5_readSum 2 (cs := []) (σ' := (14, [some (.ref 95), some (.int 1), some (.int 43), some (.int (nI k)), none, none], [.int 800, .int (nI k)], (SS b false), X, J, 0, 0)) rfl trivial ?_
  refine r_icmp okX5_readSum rfl (fun (h14 : (800 : Int32) ≤ (nI k)) => ?_) (fun (h14 : ¬ (800 : Int32) ≤ (nI k)) => ?_)
  · exact absurd h14 (nI_ge (b := 800) (by omega) (by decide))
  · refine r_run okX5_readSum 1 (cs := []) (σ' := (18, [some (.ref 95), some (.int 1), some (.int 43), some (.int (nI k)), none, none], [.int 1], (SS b false), X, J, 0, 0)) rfl trivial ?_
    refine r_ifc okX5_readSum rfl (fun (h18 : (1 : Int32) = (0 : Int32)) => ?_) (fun (h18 : ¬ (1 : Int32) = (0 : Int32)) => ?_)
    · exact absurd h18 (by decide)
    · refine r_run okX5_readSum 2 (cs := []) (σ' := (25, [some (.ref 95), some (.int 1), some (.int 43), some (.int (nI k)), none, none], [.int (X 95 7)], (SS b false), X, J, 0, 0)) rfl trivial ?_
      simp only [e7]
      show Rj _ _ _ _ _ _ (25, [some (.ref 95), some (.int 1), some (.int 43), some (.int (nI k)), none, none], [.int 47], (SS b false), X, J, 0, 0)
      refine r_callS okX5_readSum okX5_isReckoning [.int 47] [] rfl rfl rfl kkX5_isReckoning rfl rfl (by decide) (by decide) ⟨Nat.le_refl _, Nat.le_refl _⟩ (Nat.le_of_ble_eq_true rfl) (b_rk47 γ) (fun v1 S1 I1 J1 hp => ?_)
      obtain ⟨rfl, rfl, rfl, rfl⟩ := hp
      show Rj _ _ _ _ _ _ (28, [some (.ref 95), some (.int 1), some (.int 43), some (.int (nI k)), none, none], [.int 1], (SS b false), X, J, 0, 0)
      refine r_ifc okX5_readSum rfl (fun (h28 : (1 : Int32) = (0 : Int32)) => ?_) (fun (h28 : ¬ (1 : Int32) = (0 : Int32)) => ?_)
      · exact absurd h28 (by decide)
      · refine r_run okX5_readSum 5 (cs := []) (σ' := (41, [some (.ref 95), some (.int 1), some (.int 43), some (.int (nI k)), some (.int (X 95 7)), none], [.int 43, .int (X 95 7)], (SS b false), X, J, 0, 0)) rfl trivial ?_
        simp only [e7]
        show Rj _ _ _ _ _ _ (41, [some (.ref 95), some (.int 1), some (.int 43), some (.int (nI k)), some (.int 47), none], [.int 43, .int 47], (SS b false), X, J, 0, 0)
        refine r_icmp okX5_readSum rfl (fun (h41 : (47 : Int32) = (43 : Int32)) => ?_) (fun (h41 : ¬ (47 : Int32) = (43 : Int32)) => ?_)
        · exact absurd h41 (by decide)
        · refine r_run okX5_readSum 2 (cs := []) (σ' := (48, [some (.ref 95), some (.int 1), some (.int 43), some (.int (nI k)), some (.int 47), none], [.int 45, .int 47], (SS b false), X, J, 0, 0)) rfl trivial ?_
          refine r_icmp okX5_readSum rfl (fun (h48 : ¬ (47 : Int32) = (45 : Int32)) => ?_) (fun h480 => ?_)
          · refine r_run okX5_readSum 3 (cs := []) (σ' := (60, [some (.ref 95), some (.int 1), some (.int 43), some (.int (nI k)), some (.int 47), some (.int 0)], [.int 0], (SS b false), X, J, 0, 0)) rfl trivial ?_
            refine r_ifc okX5_readSum rfl (fun (h60 : (0 : Int32) = (0 : Int32)) => ?_) (fun (h60 : ¬ (0 : Int32) = (0 : Int32)) => ?_)
            · refine r_run okX5_readSum 1 (cs := []) (σ' := (80, [some (.ref 95), some (.int 1), some (.int 43), some (.int (nI k)), some (.int 47), some (.int 0)], [.ref 95], (SS b false), X, J, 0, 0)) rfl trivial ?_
              refine r_callV okX5_readSum okX5_advance [] [] 95 rfl rfl rfl kkX5_advance rfl rfl (by decide) rfl rfl rfl (by decide) ⟨Nat.le_refl _, Nat.le_refl _⟩ (Nat.le_of_ble_eq_true rfl) (b_adv87 γ hT hP hi) (fun v1 S1 I1 J1 hp => ?_)
              obtain ⟨rfl, rfl, ⟨fXa, pXa⟩, rfl⟩ := hp
              obtain ⟨Xa, eXa⟩ : ∃ z, z = I1 := ⟨_, rfl⟩
              subst eXa
              have hTa : Tkn T n N Xa := Tkn_k (A := 87) (by decide) (f9_X fXa) hT
              have hOa := OuO_9 (by decide) fXa hO
              have hfa : fr (qX 87) X0 Xa := fr_t hf (f9_X fXa)
              show Rj _ _ _ _ _ _ (83, [some (.ref 95), some (.int 1), some (.int 43), some (.int (nI k)), some (.int 47), some (.int 0)], [], (SS b false), Xa, J, 0, 0)
              refine r_run okX5_readSum 2 (cs := []) (σ' := (87, [some (.ref 95), some (.int 1), some (.int 43), some (.int (nI k)), some (.int 47), some (.int 0)], [.int 47, .int 47], (SS b false), Xa, J, 0, 0)) rfl trivial ?_
              refine r_icmp okX5_readSum rfl (fun (h87 : ¬ (47 : Int32) = (47 : Int32)) => ?_) (fun h870 => ?_)
              · exact absurd h87 (by decide)
              · have h87 : (47 : Int32) = (47 : Int32) := Classical.not_not.mp h870
                refine r_run okX5_readSum 1 (cs := []) (σ' := (91, [some (.ref 95), some (.int 1), some (.int 43), some (.int (nI k)), some (.int 47), some (.int 0)], [.ref 95], (SS b false), Xa, J, 0, 0)) rfl trivial ?_
                refine r_callV okX5_readSum okX5_readDivisor [] [] 95 rfl rfl rfl kkX5_readDivisor rfl rfl (by decide) rfl rfl rfl (by decide) ⟨Nat.le_refl _, Nat.le_refl _⟩ (Nat.le_of_ble_eq_true rfl) (b_div87 γ hTa pXa hOa (by simp only [List.length_append, List.length_cons, List.length_nil] at *; omega)) (fun v1 S1 I1 J1 hp => ?_)
                obtain ⟨rfl, rfl, hfr, hr⟩ := hp
                obtain ⟨Xu, eXu⟩ : ∃ z, z = I1 := ⟨_, rfl⟩
                subst eXu
                cases hu : dR T n (i + 1) with
                | inl e =>
                  rw [hu] at hr
                  obtain ⟨rfl, gF, gE⟩ := hr
                  have hfu : fr (qX 87) X0 Xu := fr_t hfa hfr
                  have hs : SmT T n 1 (some 2) i acc (.inl e) := by
                    unfold SmT; rw [if_neg (by rw [h]; decide), if_neg (by rw [h]; decide), if_pos h]; unfold dR at hu
                    split at hu
                    · rename_i z1; rw [if_pos z1]; split at hu
                      · rename_i z2; rw [if_pos z2]; cases hu; rfl
                      · cases hu
                    · rename_i z1; rw [if_neg z1]; cases hu; rfl
                  show Rj _ _ _ _ _ _ (94, [some (.ref 95), some (.int 1), some (.int 43), some (.int (nI k)), some (.int 47), some (.int 0)], [.int 0], (SS b false), Xu, J, 0, 0)
                  refine r_run okX5_readSum 3 (cs := []) (σ' := (104, [some (.ref 95), some (.int 0), some (.int 43), some (.int (nI k)), some (.int 47), some (.int 0)], [.int 0], (SS b false), Xu, J, 0, 0)) rfl trivial ?_
                  refine r_ifc okX5_readSum rfl (fun (h104 : (0 : Int32) = (0 : Int32)) => ?_) (fun (h104 : ¬ (0 : Int32) = (0 : Int32)) => ?_)
                  · refine r_run okX5_readSum 2 (cs := []) (σ' := (117, [some (.ref 95), some (.int 0), some (.int 43), some (.int (nI k)), some (.int 47), some (.int 0)], [.int 42, .int 47], (SS b false), Xu, J, 0, 0)) rfl trivial ?_
                    refine r_icmp okX5_readSum rfl (fun (h117 : ¬ (47 : Int32) = (42 : Int32)) => ?_) (fun h1170 => ?_)
                    · refine r_run okX5_readSum 4 (cs := []) (σ' := (14, [some (.ref 95), some (.int 0), some (.int 43), some (.int ((nI k) + 1)), some (.int 47), some (.int 0)], [.int 800, .int ((nI k) + 1)], (SS b false), Xu, J, 0, 0)) rfl trivial ?_
                      refine r_icmp okX5_readSum rfl (fun (h14_1 : (800 : Int32) ≤ ((nI k) + 1)) => ?_) (fun (h14_1 : ¬ (800 : Int32) ≤ ((nI k) + 1)) => ?_)
                      · refine r_run okX5_readSum 2 (cs := []) (σ' := (140, [some (.ref 95), some (.int 0), some (.int 43), some (.int ((nI k) + 1)), some (.int 47), some (.int 0)], [.int 18, .int 43], (SS b false), Xu, J, 0, 0)) rfl trivial ?_
                        refine r_icmp okX5_readSum rfl (fun (h140 : (43 : Int32) = (18 : Int32)) => ?_) (fun (h140 : ¬ (43 : Int32) = (18 : Int32)) => ?_)
                        · exact absurd h140 (by decide)
                        · refine r_run okX5_readSum 4 (cs := []) (σ' := (149, [some (.ref 95), some (.int 0), some (.int 43), some (.int ((nI k) + 1)), some (.int 47), some (.int 0)], [.int 0, .int 43, .ref 87], (SS b false), Xu, J, 0, 0)) rfl trivial ?_
                          refine r_callV okX5_readSum okX6_add [.int 43, .int 0] [] 87 rfl rfl rfl kkX6_add rfl rfl (by decide) rfl rfl rfl (by decide) ⟨Nat.le_refl _, Nat.le_refl _⟩ (Nat.le_of_ble_eq_true rfl) (a_addF87 γ gF 43 0) (fun v1 S1 I1 J1 hp => ?_)
                          obtain ⟨⟨zXf1, rfl⟩, rfl, ⟨fXf1, oXf1⟩, rfl⟩ := hp
                          obtain ⟨Xf1, eXf1⟩ : ∃ z, z = I1 := ⟨_, rfl⟩
                          subst eXf1
                          show Rj _ _ _ _ _ _ (152, [some (.ref 95), some (.int 0), some (.int 43), some (.int ((nI k) + 1)), some (.int 47), some (.int 0)], [.int zXf1], (SS b false), Xf1, J, 0, 0)
                          refine r_run okX5_readSum 2 (cs := []) (σ' := (154, [some (.ref 95), some (.int 0), some (.int 43), some (.int ((nI k) + 1)), some (.int 47), some (.int 0)], [.int 0], (SS b false), Xf1, J, 0, 0)) rfl trivial ?_
                          refine r_iret okX5_readSum rfl rfl (by decide +kernel) (Nat.le_refl _) (Nat.le_refl _) ?_
                          exact ⟨rfl, rfl, .inl e, hd _ ⟨1, hs⟩, (fr_t hfu (fA_X fXf1)), rfl, oXf1, (FlO_k (by decide) fXf1 gE)⟩
                      · refine r_run okX5_readSum 1 (cs := []) (σ' := (18, [some (.ref 95), some (.int 0), some (.int 43), some (.int ((nI k) + 1)), some (.int 47), some (.int 0)], [.int 0], (SS b false), Xu, J, 0, 0)) rfl trivial ?_
                        refine r_ifc okX5_readSum rfl (fun (h18_1 : (0 : Int32) = (0 : Int32)) => ?_) (fun (h18_1 : ¬ (0 : Int32) = (0 : Int32)) => ?_)
                        · refine r_run okX5_readSum 2 (cs := []) (σ' := (140, [some (.ref 95), some (.int 0), some (.int 43), some (.int ((nI k) + 1)), some (.int 47), some (.int 0)], [.int 18, .int 43], (SS b false), Xu, J, 0, 0)) rfl trivial ?_
                          refine r_icmp okX5_readSum rfl (fun (h140_1 : (43 : Int32) = (18 : Int32)) => ?_) (fun (h140_1 : ¬ (43 : Int32) = (18 : Int32)) => ?_)
                          · exact absurd h140_1 (by decide)
                          · refine r_run okX5_readSum 4 (cs := []) (σ' := (149, [some (.ref 95), some (.int 0), some (.int 43), some (.int ((nI k) + 1)), some (.int 47), some (.int 0)], [.int 0, .int 43, .ref 87], (SS b false), Xu, J, 0, 0)) rfl trivial ?_
                            refine r_callV okX5_readSum okX6_add [.int 43, .int 0] [] 87 rfl rfl rfl kkX6_add rfl rfl (by decide) rfl rfl rfl (by decide) ⟨Nat.le_refl _, Nat.le_refl _⟩ (Nat.le_of_ble_eq_true rfl) (a_addF87 γ gF 43 0) (fun v1 S1 I1 J1 hp => ?_)
                            obtain ⟨⟨zXf1, rfl⟩, rfl, ⟨fXf1, oXf1⟩, rfl⟩ := hp
                            obtain ⟨Xf1, eXf1⟩ : ∃ z, z = I1 := ⟨_, rfl⟩
                            subst eXf1
                            show Rj _ _ _ _ _ _ (152, [some (.ref 95), some (.int 0), some (.int 43), some (.int ((nI k) + 1)), some (.int 47), some (.int 0)], [.int zXf1], (SS b false), Xf1, J, 0, 0)
                            refine r_run okX5_readSum 2 (cs := []) (σ' := (154, [some (.ref 95), some (.int 0), some (.int 43), some (.int ((nI k) + 1)), some (.int 47), some (.int 0)], [.int 0], (SS b false), Xf1, J, 0, 0)) rfl trivial ?_
                            refine r_iret okX5_readSum rfl rfl (by decide +kernel) (Nat.le_refl _) (Nat.le_refl _) ?_
                            exact ⟨rfl, rfl, .inl e, hd _ ⟨1, hs⟩, (fr_t hfu (fA_X fXf1)), rfl, oXf1, (FlO_k (by decide) fXf1 gE)⟩
                        · exact absurd h18_1 (by decide)
                    · have h117 : (47 : Int32) = (42 : Int32) := Classical.not_not.mp h1170
                      exact absurd h117 (by decide)
                  · exact absurd h104 (by decide)
                | inr q =>
                  rw [hu] at hr
                  obtain ⟨rfl, gP, gO⟩ := hr
                  have hq1 := dR_l1 hu
                  have hq2 := gP.1
                  show Rj _ _ _ _ _ _ (94, [some (.ref 95), some (.int 1), some (.int 43), some (.int (nI k)), some (.int 47), some (.int 0)], [.int 1], (SS b false), Xu, J, 0, 0)
                  refine r_run okX5_readSum 3 (cs := []) (σ' := (104, [some (.ref 95), some (.int 1), some (.int 43), some (.int (nI k)), some (.int 47), some (.int 0)], [.int 0], (SS b false), Xu, J, 0, 0)) rfl trivial ?_
                  refine r_ifc okX5_readSum rfl (fun (h104_1 : (0 : Int32) = (0 : Int32)) => ?_) (fun (h104_1 : ¬ (0 : Int32) = (0 : Int32)) => ?_)
                  · refine r_run okX5_readSum 2 (cs := []) (σ' := (117, [some (.ref 95), some (.int 1), some (.int 43), some (.int (nI k)), some (.int 47), some (.int 0)], [.int 42, .int 47], (SS b false), Xu, J, 0, 0)) rfl trivial ?_
                    refine r_icmp okX5_readSum rfl (fun (h117_1 : ¬ (47 : Int32) = (42 : Int32)) => ?_) (fun h117_10 => ?_)
                    · refine r_run okX5_readSum 2 (cs := []) (σ' := (10, [some (.ref 95), some (.int 1), some (.int 43), some (.int ((nI k) + 1)), some (.int 47), some (.int 0)], [], (SS b false), Xu, J, 0, 0)) rfl trivial ?_
                      rw [← nI_succ]
                      refine r_weak (L' := [some (.ref 95), some (.int 1), some (.int 43), some (.int (nI (k + 1))), none, none]) ⟨rfl, rfl, rfl, rfl, trivial⟩ ?_
                      refine K q _ hu (Tkn_k (A := 87) (by decide) hfr hTa) gP ?_ (fr_t hfa hfr)
                      rw [show l ++ (acc ++ q.1) = l ++ acc ++ q.1 by simp only [List.append_assoc]]
                      exact gO
                    · have h117_1 : (47 : Int32) = (42 : Int32) := Classical.not_not.mp h117_10
                      exact absurd h117_1 (by decide)
                  · exact absurd h104_1 (by decide)
            · exact absurd h60 (by decide)
          · have h48 : (47 : Int32) = (45 : Int32) := Classical.not_not.mp h480
            exact absurd h48 (by decide)
theorem sm_end2_87 (γ : GE) {b : Bool} {J : AJ} {T : Nat → Int32} {n N i0 : Nat} {l : Cd} {X0 : AI} {X : AI} {i k : Nat} {acc : Cd} (h1 : ¬ kK T n i = 43) (h2 : ¬ kK T n i = 45) (h3 : ¬ kK T n i = 42) (h4 : ¬ kK T n i = 47) (hT : Tkn T n N X) (hP : PsO T n N X i) (hO : OuO X 87 (l ++ acc)) (hl : (l ++ acc).length + (wC (some 3)).length ≤ i) (hk : k ≤ i) (hf : fr (qX 87) X0 X) (hd : ∀ res, (∃ f, SmT T n f (some 3) i acc res) → Sm T n i0 res) : Rj γ mX5_readSum 2 0 0 (fun r S' I' J' => (SS b false) = S' ∧ J = J' ∧ ∃ res, Sm T n i0 res ∧ RsO T n N 87 X0 l res r I') (10, [some (.ref 95), some (.int 1), some (.int 45), some (.int (nI k)), none, none], [], (SS b false), X, J, 0, 0) := by
  have hlw : (wC (some 3)).length = 1 := rfl
  have hN := hT.1
  have hiN := hP.1
  have e7 := hP.2.2.1
  have k800 : k ≤ 800 := by omega
  refine r_run okX5_readSum 2 (cs := []) (σ' := (14, [some (.ref 95), some (.int 1), some (.int 45), some (.int (nI k)), none, none], [.int 800, .int (nI k)], (SS b false), X, J, 0, 0)) rfl trivial ?_
  refine r_icmp okX5_readSum rfl (fun (h14 : (800 : Int32) ≤ (nI k)) => ?_) (fun (h14 : ¬ (800 : Int32) ≤ (nI k)) => ?_)
  · refine r_run okX5_readSum 2 (cs := []) (σ' := (140, [some (.ref 95), some (.int 1), some (.int 45), some (.int (nI k)), none, none], [.int 18, .int 45], (SS b false), X, J, 0, 0)) rfl trivial ?_
    refine r_icmp okX5_readSum rfl (fun (h140 : (45 : Int32) = (18 : Int32)) => ?_) (fun (h140 : ¬ (45 : Int32) = (18 : Int32)) => ?_)
    · exact absurd h140 (by decide)
    · refine r_run okX5_readSum 4 (cs := []) (σ' := (149, [some (.ref 95), some (.int 1), some (.int 45), some (.int (nI k)), none, none], [.int 0, .int 45, .ref 87], (SS b false), X, J, 0, 0)) rfl trivial ?_
      refine r_callV okX5_readSum okX6_add [.int 45, .int 0] [] 87 rfl rfl rfl kkX6_add rfl rfl (by decide) rfl rfl rfl (by decide) ⟨Nat.le_refl _, Nat.le_refl _⟩ (Nat.le_of_ble_eq_true rfl) (a_add87 γ hO (by simp only [List.length_append, List.length_cons, List.length_nil] at *; omega) (p := (3, 0)) rfl) (fun v1 S1 I1 J1 hp => ?_)
      obtain ⟨rfl, rfl, ⟨fXe, oXe⟩, rfl⟩ := hp
      obtain ⟨Xe, eXe⟩ : ∃ z, z = I1 := ⟨_, rfl⟩
      subst eXe
      show Rj _ _ _ _ _ _ (152, [some (.ref 95), some (.int 1), some (.int 45), some (.int (nI k)), none, none], [.int 1], (SS b false), Xe, J, 0, 0)
      refine r_run okX5_readSum 2 (cs := []) (σ' := (154, [some (.ref 95), some (.int 1), some (.int 45), some (.int (nI k)), none, none], [.int 1], (SS b false), Xe, J, 0, 0)) rfl trivial ?_
      refine r_iret okX5_readSum rfl rfl (by decide +kernel) (Nat.le_refl _) (Nat.le_refl _) ?_
      have hs : SmT T n 1 (some 3) i acc (.inr (acc ++ wC (some 3), i)) := by
        unfold SmT; rw [if_neg (fun z => z.elim h1 h2), if_neg h3, if_neg h4]
      exact ⟨rfl, rfl, _, hd _ ⟨1, hs⟩, fr_t hf (fA_X fXe), rfl, PsO_k (by decide) fXe hP, by show OuO Xe 87 (l ++ (acc ++ [(3, 0)])); rw [← List.append_assoc]; exact oXe⟩
  · refine r_run okX5_readSum 1 (cs := []) (σ' := (18, [some (.ref 95), some (.int 1), some (.int 45), some (.int (nI k)), none, none], [.int 1], (SS b false), X, J, 0, 0)) rfl trivial ?_
    refine r_ifc okX5_readSum rfl (fun (h18 : (1 : Int32) = (0 : Int32)) => ?_) (fun (h18 : ¬ (1 : Int32) = (0 : Int32)) => ?_)
    · exact absurd h18 (by decide)
    · refine r_run okX5_readSum 2 (cs := []) (σ' := (25, [some (.ref 95), some (.int 1), some (.int 45), some (.int (nI k)), none, none], [.int (X 95 7)], (SS b false), X, J, 0, 0)) rfl trivial ?_
      simp only [e7]
      show Rj _ _ _ _ _ _ (25, [some (.ref 95), some (.int 1), some (.int 45), some (.int (nI k)), none, none], [.int (kK T n i)], (SS b false), X, J, 0, 0)
      refine r_callS okX5_readSum okX5_isReckoning [.int (kK T n i)] [] rfl rfl rfl kkX5_isReckoning rfl rfl (by decide) (by decide) ⟨Nat.le_refl _, Nat.le_refl _⟩ (Nat.le_of_ble_eq_true rfl) (b_rkn γ h1 h2 h3 h4) (fun v1 S1 I1 J1 hp => ?_)
      obtain ⟨rfl, rfl, rfl, rfl⟩ := hp
      show Rj _ _ _ _ _ _ (28, [some (.ref 95), some (.int 1), some (.int 45), some (.int (nI k)), none, none], [.int 0], (SS b false), X, J, 0, 0)
      refine r_ifc okX5_readSum rfl (fun (h28 : (0 : Int32) = (0 : Int32)) => ?_) (fun (h28 : ¬ (0 : Int32) = (0 : Int32)) => ?_)
      · refine r_run okX5_readSum 2 (cs := []) (σ' := (140, [some (.ref 95), some (.int 1), some (.int 45), some (.int (nI k)), none, none], [.int 18, .int 45], (SS b false), X, J, 0, 0)) rfl trivial ?_
        refine r_icmp okX5_readSum rfl (fun (h140_1 : (45 : Int32) = (18 : Int32)) => ?_) (fun (h140_1 : ¬ (45 : Int32) = (18 : Int32)) => ?_)
        · exact absurd h140_1 (by decide)
        · refine r_run okX5_readSum 4 (cs := []) (σ' := (149, [some (.ref 95), some (.int 1), some (.int 45), some (.int (nI k)), none, none], [.int 0, .int 45, .ref 87], (SS b false), X, J, 0, 0)) rfl trivial ?_
          refine r_callV okX5_readSum okX6_add [.int 45, .int 0] [] 87 rfl rfl rfl kkX6_add rfl rfl (by decide) rfl rfl rfl (by decide) ⟨Nat.le_refl _, Nat.le_refl _⟩ (Nat.le_of_ble_eq_true rfl) (a_add87 γ hO (by simp only [List.length_append, List.length_cons, List.length_nil] at *; omega) (p := (3, 0)) rfl) (fun v1 S1 I1 J1 hp => ?_)
          obtain ⟨rfl, rfl, ⟨fXe, oXe⟩, rfl⟩ := hp
          obtain ⟨Xe, eXe⟩ : ∃ z, z = I1 := ⟨_, rfl⟩
          subst eXe
          show Rj _ _ _ _ _ _ (152, [some (.ref 95), some (.int 1), some (.int 45), some (.int (nI k)), none, none], [.int 1], (SS b false), Xe, J, 0, 0)
          refine r_run okX5_readSum 2 (cs := []) (σ' := (154, [some (.ref 95), some (.int 1), some (.int 45), some (.int (nI k)), none, none], [.int 1], (SS b false), Xe, J, 0, 0)) rfl trivial ?_
          refine r_iret okX5_readSum rfl rfl (by decide +kernel) (Nat.le_refl _) (Nat.le_refl _) ?_
          have hs : SmT T n 1 (some 3) i acc (.inr (acc ++ wC (some 3), i)) := by
            unfold SmT; rw [if_neg (fun z => z.elim h1 h2), if_neg h3, if_neg h4]
          exact ⟨rfl, rfl, _, hd _ ⟨1, hs⟩, fr_t hf (fA_X fXe), rfl, PsO_k (by decide) fXe hP, by show OuO Xe 87 (l ++ (acc ++ [(3, 0)])); rw [← List.append_assoc]; exact oXe⟩
      · exact absurd h28 (by decide)
theorem sm_43_2_87 (γ : GE) {b : Bool} {J : AJ} {T : Nat → Int32} {n N i0 : Nat} {l : Cd} {X0 : AI} {X : AI} {i k : Nat} {acc : Cd} (h : kK T n i = 43) (hT : Tkn T n N X) (hP : PsO T n N X i) (hO : OuO X 87 (l ++ acc)) (hl : (l ++ acc).length + (wC (some 3)).length ≤ i) (hk : k ≤ i) (hf : fr (qX 87) X0 X) (hd : ∀ res, (∃ f, SmT T n f (some 3) i acc res) → Sm T n i0 res) (K : ∀ (q : Cd × Nat) (Y : AI), uR T n (i + 1) = .inr q → Tkn T n N Y → PsO T n N Y q.2 → OuO Y 87 (l ++ (acc ++ wC (some 3) ++ q.1)) → fr (qX 87) X0 Y → Rj γ mX5_readSum 2 0 0 (fun r S' I' J' => (SS b false) = S' ∧ J = J' ∧ ∃ res, Sm T n i0 res ∧ RsO T n N 87 X0 l res r I') (10, [some (.ref 95), some (.int 1), some (.int 43), some (.int (nI (k + 1))), none, none], [], (SS b false), Y, J, 0, 0)) : Rj γ mX5_readSum 2 0 0 (fun r S' I' J' => (SS b false) = S' ∧ J = J' ∧ ∃ res, Sm T n i0 res ∧ RsO T n N 87 X0 l res r I') (10, [some (.ref 95), some (.int 1), some (.int 45), some (.int (nI k)), none, none], [], (SS b false), X, J, 0, 0) := by
  have hlw : (wC (some 3)).length = 1 := rfl
  have hN := hT.1
  have hiN := hP.1
  have e7 : X 95 7 = 43 := hP.2.2.1.trans h
  have hi : i < N := kK_lt hT hiN (by rw [h]; decide)
  refine r_run okX5_readSum 2 (cs := []) (σ' := (14, [some (.ref 95), some (.int 1), some (.int 45), some (.int (nI k)), none, none], [.int 800, .int (nI k)], (SS b false), X, J, 0, 0)) rfl trivial ?_
  refine r_icmp okX5_readSum rfl (fun (h14 : (800 : Int32) ≤ (nI k)) => ?_) (fun (h14 : ¬ (800 : Int32) ≤ (nI k)) => ?_)
  · exact absurd h14 (nI_ge (b := 800) (by omega) (by decide))
  · refine r_run okX5_readSum 1 (cs := []) (σ' := (18, [some (.ref 95), some (.int 1), some (.int 45), some (.int (nI k)), none, none], [.int 1], (SS b false), X, J, 0, 0)) rfl trivial ?_
    refine r_ifc okX5_readSum rfl (fun (h18 : (1 : Int32) = (0 : Int32)) => ?_) (fun (h18 : ¬ (1 : Int32) = (0 : Int32)) => ?_)
    · exact absurd h18 (by decide)
    · refine r_run okX5_readSum 2 (cs := []) (σ' := (25, [some (.ref 95), some (.int 1), some (.int 45), some (.int (nI k)), none, none], [.int (X 95 7)], (SS b false), X, J, 0, 0)) rfl trivial ?_
      simp only [e7]
      show Rj _ _ _ _ _ _ (25, [some (.ref 95), some (.int 1), some (.int 45), some (.int (nI k)), none, none], [.int 43], (SS b false), X, J, 0, 0)
      refine r_callS okX5_readSum okX5_isReckoning [.int 43] [] rfl rfl rfl kkX5_isReckoning rfl rfl (by decide) (by decide) ⟨Nat.le_refl _, Nat.le_refl _⟩ (Nat.le_of_ble_eq_true rfl) (b_rk43 γ) (fun v1 S1 I1 J1 hp => ?_)
      obtain ⟨rfl, rfl, rfl, rfl⟩ := hp
      show Rj _ _ _ _ _ _ (28, [some (.ref 95), some (.int 1), some (.int 45), some (.int (nI k)), none, none], [.int 1], (SS b false), X, J, 0, 0)
      refine r_ifc okX5_readSum rfl (fun (h28 : (1 : Int32) = (0 : Int32)) => ?_) (fun (h28 : ¬ (1 : Int32) = (0 : Int32)) => ?_)
      · exact absurd h28 (by decide)
      · refine r_run okX5_readSum 5 (cs := []) (σ' := (41, [some (.ref 95), some (.int 1), some (.int 45), some (.int (nI k)), some (.int (X 95 7)), none], [.int 43, .int (X 95 7)], (SS b false), X, J, 0, 0)) rfl trivial ?_
        simp only [e7]
        show Rj _ _ _ _ _ _ (41, [some (.ref 95), some (.int 1), some (.int 45), some (.int (nI k)), some (.int 43), none], [.int 43, .int 43], (SS b false), X, J, 0, 0)
        refine r_icmp okX5_readSum rfl (fun (h41 : (43 : Int32) = (43 : Int32)) => ?_) (fun (h41 : ¬ (43 : Int32) = (43 : Int32)) => ?_)
        · refine r_run okX5_readSum 4 (cs := []) (σ' := (60, [some (.ref 95), some (.int 1), some (.int 45), some (.int (nI k)), some (.int 43), some (.int 1)], [.int 1], (SS b false), X, J, 0, 0)) rfl trivial ?_
          refine r_ifc okX5_readSum rfl (fun (h60 : (1 : Int32) = (0 : Int32)) => ?_) (fun (h60 : ¬ (1 : Int32) = (0 : Int32)) => ?_)
          · exact absurd h60 (by decide)
          · refine r_run okX5_readSum 2 (cs := []) (σ' := (66, [some (.ref 95), some (.int 1), some (.int 45), some (.int (nI k)), some (.int 43), some (.int 1)], [.int 18, .int 45], (SS b false), X, J, 0, 0)) rfl trivial ?_
            refine r_icmp okX5_readSum rfl (fun (h66 : (45 : Int32) = (18 : Int32)) => ?_) (fun (h66 : ¬ (45 : Int32) = (18 : Int32)) => ?_)
            · exact absurd h66 (by decide)
            · refine r_run okX5_readSum 4 (cs := []) (σ' := (75, [some (.ref 95), some (.int 1), some (.int 45), some (.int (nI k)), some (.int 43), some (.int 1)], [.int 0, .int 45, .ref 87], (SS b false), X, J, 0, 0)) rfl trivial ?_
              refine r_callV okX5_readSum okX6_add [.int 45, .int 0] [] 87 rfl rfl rfl kkX6_add rfl rfl (by decide) rfl rfl rfl (by decide) ⟨Nat.le_refl _, Nat.le_refl _⟩ (Nat.le_of_ble_eq_true rfl) (a_add87 γ hO (by simp only [List.length_append, List.length_cons, List.length_nil] at *; omega) (p := (3, 0)) rfl) (fun v1 S1 I1 J1 hp => ?_)
              obtain ⟨rfl, rfl, ⟨fXw, oXw⟩, rfl⟩ := hp
              obtain ⟨Xw, eXw⟩ : ∃ z, z = I1 := ⟨_, rfl⟩
              subst eXw
              show Rj _ _ _ _ _ _ (78, [some (.ref 95), some (.int 1), some (.int 45), some (.int (nI k)), some (.int 43), some (.int 1)], [.int 1], (SS b false), Xw, J, 0, 0)
              refine r_run okX5_readSum 2 (cs := []) (σ' := (80, [some (.ref 95), some (.int 1), some (.int 45), some (.int (nI k)), some (.int 43), some (.int 1)], [.ref 95], (SS b false), Xw, J, 0, 0)) rfl trivial ?_
              refine r_callV okX5_readSum okX5_advance [] [] 95 rfl rfl rfl kkX5_advance rfl rfl (by decide) rfl rfl rfl (by decide) ⟨Nat.le_refl _, Nat.le_refl _⟩ (Nat.le_of_ble_eq_true rfl) (b_adv87 γ (Tkn_k (A := 87) (by decide) (fA_X fXw) hT) (PsO_k (by decide) fXw hP) hi) (fun v1 S1 I1 J1 hp => ?_)
              obtain ⟨rfl, rfl, ⟨fXa, pXa⟩, rfl⟩ := hp
              obtain ⟨Xa, eXa⟩ : ∃ z, z = I1 := ⟨_, rfl⟩
              subst eXa
              have hTa : Tkn T n N Xa := Tkn_k (A := 87) (by decide) (f9_X fXa) (Tkn_k (A := 87) (by decide) (fA_X fXw) hT)
              have hOa := OuO_9 (by decide) fXa oXw
              have hfa : fr (qX 87) X0 Xa := fr_t hf (fr_t (fA_X fXw) (f9_X fXa))
              show Rj _ _ _ _ _ _ (83, [some (.ref 95), some (.int 1), some (.int 45), some (.int (nI k)), some (.int 43), some (.int 1)], [], (SS b false), Xa, J, 0, 0)
              refine r_run okX5_readSum 2 (cs := []) (σ' := (87, [some (.ref 95), some (.int 1), some (.int 45), some (.int (nI k)), some (.int 43), some (.int 1)], [.int 47, .int 43], (SS b false), Xa, J, 0, 0)) rfl trivial ?_
              refine r_icmp okX5_readSum rfl (fun (h87 : ¬ (43 : Int32) = (47 : Int32)) => ?_) (fun h870 => ?_)
              · refine r_run okX5_readSum 1 (cs := []) (σ' := (98, [some (.ref 95), some (.int 1), some (.int 45), some (.int (nI k)), some (.int 43), some (.int 1)], [.ref 95], (SS b false), Xa, J, 0, 0)) rfl trivial ?_
                refine r_callV okX5_readSum okX5_readUnit [] [] 95 rfl rfl rfl kkX5_readUnit rfl rfl (by decide) rfl rfl rfl (by decide) ⟨Nat.le_refl _, Nat.le_refl _⟩ (Nat.le_of_ble_eq_true rfl) (b_unit87 γ hTa pXa hOa (by simp only [List.length_append, List.length_cons, List.length_nil] at *; omega)) (fun v1 S1 I1 J1 hp => ?_)
                obtain ⟨rfl, rfl, hfr, hr⟩ := hp
                obtain ⟨Xu, eXu⟩ : ∃ z, z = I1 := ⟨_, rfl⟩
                subst eXu
                cases hu : uR T n (i + 1) with
                | inl e =>
                  rw [hu] at hr
                  obtain ⟨rfl, gF, gE⟩ := hr
                  have hfu : fr (qX 87) X0 Xu := fr_t hfa hfr
                  have hs : SmT T n 1 (some 3) i acc (.inl e) := by unfold SmT; rw [if_pos (Or.inl h)]; simp only [hu]
                  show Rj _ _ _ _ _ _ (101, [some (.ref 95), some (.int 1), some (.int 45), some (.int (nI k)), some (.int 43), some (.int 1)], [.int 0], (SS b false), Xu, J, 0, 0)
                  refine r_run okX5_readSum 2 (cs := []) (σ' := (104, [some (.ref 95), some (.int 0), some (.int 45), some (.int (nI k)), some (.int 43), some (.int 1)], [.int 1], (SS b false), Xu, J, 0, 0)) rfl trivial ?_
                  refine r_ifc okX5_readSum rfl (fun (h104 : (1 : Int32) = (0 : Int32)) => ?_) (fun (h104 : ¬ (1 : Int32) = (0 : Int32)) => ?_)
                  · exact absurd h104 (by decide)
                  · refine r_run okX5_readSum 7 (cs := []) (σ' := (14, [some (.ref 95), some (.int 0), some (.int 43), some (.int ((nI k) + 1)), some (.int 43), some (.int 1)], [.int 800, .int ((nI k) + 1)], (SS b false), Xu, J, 0, 0)) rfl trivial ?_
                    refine r_icmp okX5_readSum rfl (fun (h14_1 : (800 : Int32) ≤ ((nI k) + 1)) => ?_) (fun (h14_1 : ¬ (800 : Int32) ≤ ((nI k) + 1)) => ?_)
                    · refine r_run okX5_readSum 2 (cs := []) (σ' := (140, [some (.ref 95), some (.int 0), some (.int 43), some (.int ((nI k) + 1)), some (.int 43), some (.int 1)], [.int 18, .int 43], (SS b false), Xu, J, 0, 0)) rfl trivial ?_
                      refine r_icmp okX5_readSum rfl (fun (h140 : (43 : Int32) = (18 : Int32)) => ?_) (fun (h140 : ¬ (43 : Int32) = (18 : Int32)) => ?_)
                      · exact absurd h140 (by decide)
                      · refine r_run okX5_readSum 4 (cs := []) (σ' := (149, [some (.ref 95), some (.int 0), some (.int 43), some (.int ((nI k) + 1)), some (.int 43), some (.int 1)], [.int 0, .int 43, .ref 87], (SS b false), Xu, J, 0, 0)) rfl trivial ?_
                        refine r_callV okX5_readSum okX6_add [.int 43, .int 0] [] 87 rfl rfl rfl kkX6_add rfl rfl (by decide) rfl rfl rfl (by decide) ⟨Nat.le_refl _, Nat.le_refl _⟩ (Nat.le_of_ble_eq_true rfl) (a_addF87 γ gF 43 0) (fun v1 S1 I1 J1 hp => ?_)
                        obtain ⟨⟨zXf1, rfl⟩, rfl, ⟨fXf1, oXf1⟩, rfl⟩ := hp
                        obtain ⟨Xf1, eXf1⟩ : ∃ z, z = I1 := ⟨_, rfl⟩
                        subst eXf1
                        show Rj _ _ _ _ _ _ (152, [some (.ref 95), some (.int 0), some (.int 43), some (.int ((nI k) + 1)), some (.int 43), some (.int 1)], [.int zXf1], (SS b false), Xf1, J, 0, 0)
                        refine r_run okX5_readSum 2 (cs := []) (σ' := (154, [some (.ref 95), some (.int 0), some (.int 43), some (.int ((nI k) + 1)), some (.int 43), some (.int 1)], [.int 0], (SS b false), Xf1, J, 0, 0)) rfl trivial ?_
                        refine r_iret okX5_readSum rfl rfl (by decide +kernel) (Nat.le_refl _) (Nat.le_refl _) ?_
                        exact ⟨rfl, rfl, .inl e, hd _ ⟨1, hs⟩, (fr_t hfu (fA_X fXf1)), rfl, oXf1, (FlO_k (by decide) fXf1 gE)⟩
                    · refine r_run okX5_readSum 1 (cs := []) (σ' := (18, [some (.ref 95), some (.int 0), some (.int 43), some (.int ((nI k) + 1)), some (.int 43), some (.int 1)], [.int 0], (SS b false), Xu, J, 0, 0)) rfl trivial ?_
                      refine r_ifc okX5_readSum rfl (fun (h18_1 : (0 : Int32) = (0 : Int32)) => ?_) (fun (h18_1 : ¬ (0 : Int32) = (0 : Int32)) => ?_)
                      · refine r_run okX5_readSum 2 (cs := []) (σ' := (140, [some (.ref 95), some (.int 0), some (.int 43), some (.int ((nI k) + 1)), some (.int 43), some (.int 1)], [.int 18, .int 43], (SS b false), Xu, J, 0, 0)) rfl trivial ?_
                        refine r_icmp okX5_readSum rfl (fun (h140_1 : (43 : Int32) = (18 : Int32)) => ?_) (fun (h140_1 : ¬ (43 : Int32) = (18 : Int32)) => ?_)
                        · exact absurd h140_1 (by decide)
                        · refine r_run okX5_readSum 4 (cs := []) (σ' := (149, [some (.ref 95), some (.int 0), some (.int 43), some (.int ((nI k) + 1)), some (.int 43), some (.int 1)], [.int 0, .int 43, .ref 87], (SS b false), Xu, J, 0, 0)) rfl trivial ?_
                          refine r_callV okX5_readSum okX6_add [.int 43, .int 0] [] 87 rfl rfl rfl kkX6_add rfl rfl (by decide) rfl rfl rfl (by decide) ⟨Nat.le_refl _, Nat.le_refl _⟩ (Nat.le_of_ble_eq_true rfl) (a_addF87 γ gF 43 0) (fun v1 S1 I1 J1 hp => ?_)
                          obtain ⟨⟨zXf1, rfl⟩, rfl, ⟨fXf1, oXf1⟩, rfl⟩ := hp
                          obtain ⟨Xf1, eXf1⟩ : ∃ z, z = I1 := ⟨_, rfl⟩
                          subst eXf1
                          show Rj _ _ _ _ _ _ (152, [some (.ref 95), some (.int 0), some (.int 43), some (.int ((nI k) + 1)), some (.int 43), some (.int 1)], [.int zXf1], (SS b false), Xf1, J, 0, 0)
                          refine r_run okX5_readSum 2 (cs := []) (σ' := (154, [some (.ref 95), some (.int 0), some (.int 43), some (.int ((nI k) + 1)), some (.int 43), some (.int 1)], [.int 0], (SS b false), Xf1, J, 0, 0)) rfl trivial ?_
                          refine r_iret okX5_readSum rfl rfl (by decide +kernel) (Nat.le_refl _) (Nat.le_refl _) ?_
                          exact ⟨rfl, rfl, .inl e, hd _ ⟨1, hs⟩, (fr_t hfu (fA_X fXf1)), rfl, oXf1, (FlO_k (by decide) fXf1 gE)⟩
                      · exact absurd h18_1 (by decide)
                | inr q =>
                  rw [hu] at hr
                  obtain ⟨rfl, gP, gO⟩ := hr
                  have hq1 := uR_l1 hu
                  have hq2 := gP.1
                  show Rj _ _ _ _ _ _ (101, [some (.ref 95), some (.int 1), some (.int 45), some (.int (nI k)), some (.int 43), some (.int 1)], [.int 1], (SS b false), Xu, J, 0, 0)
                  refine r_run okX5_readSum 2 (cs := []) (σ' := (104, [some (.ref 95), some (.int 1), some (.int 45), some (.int (nI k)), some (.int 43), some (.int 1)], [.int 1], (SS b false), Xu, J, 0, 0)) rfl trivial ?_
                  refine r_ifc okX5_readSum rfl (fun (h104_1 : (1 : Int32) = (0 : Int32)) => ?_) (fun (h104_1 : ¬ (1 : Int32) = (0 : Int32)) => ?_)
                  · exact absurd h104_1 (by decide)
                  · refine r_run okX5_readSum 5 (cs := []) (σ' := (10, [some (.ref 95), some (.int 1), some (.int 43), some (.int ((nI k) + 1)), some (.int 43), some (.int 1)], [], (SS b false), Xu, J, 0, 0)) rfl trivial ?_
                    rw [← nI_succ]
                    refine r_weak (L' := [some (.ref 95), some (.int 1), some (.int 43), some (.int (nI (k + 1))), none, none]) ⟨rfl, rfl, rfl, rfl, trivial⟩ ?_
                    refine K q _ hu (Tkn_k (A := 87) (by decide) hfr hTa) gP ?_ (fr_t hfa hfr)
                    rw [show l ++ (acc ++ wC (some 3) ++ q.1) = l ++ acc ++ wC (some 3) ++ q.1 by simp only [List.append_assoc]]
                    exact gO
              · have h87 : (43 : Int32) = (47 : Int32) := Classical.not_not.mp h870
                exact absurd h87 (by decide)
        · exact absurd h41 (by decide)
theorem sm_45_2_87 (γ : GE) {b : Bool} {J : AJ} {T : Nat → Int32} {n N i0 : Nat} {l : Cd} {X0 : AI} {X : AI} {i k : Nat} {acc : Cd} (h : kK T n i = 45) (hT : Tkn T n N X) (hP : PsO T n N X i) (hO : OuO X 87 (l ++ acc)) (hl : (l ++ acc).length + (wC (some 3)).length ≤ i) (hk : k ≤ i) (hf : fr (qX 87) X0 X) (hd : ∀ res, (∃ f, SmT T n f (some 3) i acc res) → Sm T n i0 res) (K : ∀ (q : Cd × Nat) (Y : AI), uR T n (i + 1) = .inr q → Tkn T n N Y → PsO T n N Y q.2 → OuO Y 87 (l ++ (acc ++ wC (some 3) ++ q.1)) → fr (qX 87) X0 Y → Rj γ mX5_readSum 2 0 0 (fun r S' I' J' => (SS b false) = S' ∧ J = J' ∧ ∃ res, Sm T n i0 res ∧ RsO T n N 87 X0 l res r I') (10, [some (.ref 95), some (.int 1), some (.int 45), some (.int (nI (k + 1))), none, none], [], (SS b false), Y, J, 0, 0)) : Rj γ mX5_readSum 2 0 0 (fun r S' I' J' => (SS b false) = S' ∧ J = J' ∧ ∃ res, Sm T n i0 res ∧ RsO T n N 87 X0 l res r I') (10, [some (.ref 95), some (.int 1), some (.int 45), some (.int (nI k)), none, none], [], (SS b false), X, J, 0, 0) := by
  have hlw : (wC (some 3)).length = 1 := rfl
  have hN := hT.1
  have hiN := hP.1
  have e7 : X 95 7 = 45 := hP.2.2.1.trans h
  have hi : i < N := kK_lt hT hiN (by rw [h]; decide)
  refine r_run okX5_readSum 2 (cs := []) (σ' := (14, [some (.ref 95), some (.int 1), some (.int 45), some (.int (nI k)), none, none], [.int 800, .int (nI k)], (SS b false), X, J, 0, 0)) rfl trivial ?_
  refine r_icmp okX5_readSum rfl (fun (h14 : (800 : Int32) ≤ (nI k)) => ?_) (fun (h14 : ¬ (800 : Int32) ≤ (nI k)) => ?_)
  · exact absurd h14 (nI_ge (b := 800) (by omega) (by decide))
  · refine r_run okX5_readSum 1 (cs := []) (σ' := (18, [some (.ref 95), some (.int 1), some (.int 45), some (.int (nI k)), none, none], [.int 1], (SS b false), X, J, 0, 0)) rfl trivial ?_
    refine r_ifc okX5_readSum rfl (fun (h18 : (1 : Int32) = (0 : Int32)) => ?_) (fun (h18 : ¬ (1 : Int32) = (0 : Int32)) => ?_)
    · exact absurd h18 (by decide)
    · refine r_run okX5_readSum 2 (cs := []) (σ' := (25, [some (.ref 95), some (.int 1), some (.int 45), some (.int (nI k)), none, none], [.int (X 95 7)], (SS b false), X, J, 0, 0)) rfl trivial ?_
      simp only [e7]
      show Rj _ _ _ _ _ _ (25, [some (.ref 95), some (.int 1), some (.int 45), some (.int (nI k)), none, none], [.int 45], (SS b false), X, J, 0, 0)
      refine r_callS okX5_readSum okX5_isReckoning [.int 45] [] rfl rfl rfl kkX5_isReckoning rfl rfl (by decide) (by decide) ⟨Nat.le_refl _, Nat.le_refl _⟩ (Nat.le_of_ble_eq_true rfl) (b_rk45 γ) (fun v1 S1 I1 J1 hp => ?_)
      obtain ⟨rfl, rfl, rfl, rfl⟩ := hp
      show Rj _ _ _ _ _ _ (28, [some (.ref 95), some (.int 1), some (.int 45), some (.int (nI k)), none, none], [.int 1], (SS b false), X, J, 0, 0)
      refine r_ifc okX5_readSum rfl (fun (h28 : (1 : Int32) = (0 : Int32)) => ?_) (fun (h28 : ¬ (1 : Int32) = (0 : Int32)) => ?_)
      · exact absurd h28 (by decide)
      · refine r_run okX5_readSum 5 (cs := []) (σ' := (41, [some (.ref 95), some (.int 1), some (.int 45), some (.int (nI k)), some (.int (X 95 7)), none], [.int 43, .int (X 95 7)], (SS b false), X, J, 0, 0)) rfl trivial ?_
        simp only [e7]
        show Rj _ _ _ _ _ _ (41, [some (.ref 95), some (.int 1), some (.int 45), some (.int (nI k)), some (.int 45), none], [.int 43, .int 45], (SS b false), X, J, 0, 0)
        refine r_icmp okX5_readSum rfl (fun (h41 : (45 : Int32) = (43 : Int32)) => ?_) (fun (h41 : ¬ (45 : Int32) = (43 : Int32)) => ?_)
        · exact absurd h41 (by decide)
        · refine r_run okX5_readSum 2 (cs := []) (σ' := (48, [some (.ref 95), some (.int 1), some (.int 45), some (.int (nI k)), some (.int 45), none], [.int 45, .int 45], (SS b false), X, J, 0, 0)) rfl trivial ?_
          refine r_icmp okX5_readSum rfl (fun (h48 : ¬ (45 : Int32) = (45 : Int32)) => ?_) (fun h480 => ?_)
          · exact absurd h48 (by decide)
          · have h48 : (45 : Int32) = (45 : Int32) := Classical.not_not.mp h480
            refine r_run okX5_readSum 4 (cs := []) (σ' := (60, [some (.ref 95), some (.int 1), some (.int 45), some (.int (nI k)), some (.int 45), some (.int 1)], [.int 1], (SS b false), X, J, 0, 0)) rfl trivial ?_
            refine r_ifc okX5_readSum rfl (fun (h60 : (1 : Int32) = (0 : Int32)) => ?_) (fun (h60 : ¬ (1 : Int32) = (0 : Int32)) => ?_)
            · exact absurd h60 (by decide)
            · refine r_run okX5_readSum 2 (cs := []) (σ' := (66, [some (.ref 95), some (.int 1), some (.int 45), some (.int (nI k)), some (.int 45), some (.int 1)], [.int 18, .int 45], (SS b false), X, J, 0, 0)) rfl trivial ?_
              refine r_icmp okX5_readSum rfl (fun (h66 : (45 : Int32) = (18 : Int32)) => ?_) (fun (h66 : ¬ (45 : Int32) = (18 : Int32)) => ?_)
              · exact absurd h66 (by decide)
              · refine r_run okX5_readSum 4 (cs := []) (σ' := (75, [some (.ref 95), some (.int 1), some (.int 45), some (.int (nI k)), some (.int 45), some (.int 1)], [.int 0, .int 45, .ref 87], (SS b false), X, J, 0, 0)) rfl trivial ?_
                refine r_callV okX5_readSum okX6_add [.int 45, .int 0] [] 87 rfl rfl rfl kkX6_add rfl rfl (by decide) rfl rfl rfl (by decide) ⟨Nat.le_refl _, Nat.le_refl _⟩ (Nat.le_of_ble_eq_true rfl) (a_add87 γ hO (by simp only [List.length_append, List.length_cons, List.length_nil] at *; omega) (p := (3, 0)) rfl) (fun v1 S1 I1 J1 hp => ?_)
                obtain ⟨rfl, rfl, ⟨fXw, oXw⟩, rfl⟩ := hp
                obtain ⟨Xw, eXw⟩ : ∃ z, z = I1 := ⟨_, rfl⟩
                subst eXw
                show Rj _ _ _ _ _ _ (78, [some (.ref 95), some (.int 1), some (.int 45), some (.int (nI k)), some (.int 45), some (.int 1)], [.int 1], (SS b false), Xw, J, 0, 0)
                refine r_run okX5_readSum 2 (cs := []) (σ' := (80, [some (.ref 95), some (.int 1), some (.int 45), some (.int (nI k)), some (.int 45), some (.int 1)], [.ref 95], (SS b false), Xw, J, 0, 0)) rfl trivial ?_
                refine r_callV okX5_readSum okX5_advance [] [] 95 rfl rfl rfl kkX5_advance rfl rfl (by decide) rfl rfl rfl (by decide) ⟨Nat.le_refl _, Nat.le_refl _⟩ (Nat.le_of_ble_eq_true rfl) (b_adv87 γ (Tkn_k (A := 87) (by decide) (fA_X fXw) hT) (PsO_k (by decide) fXw hP) hi) (fun v1 S1 I1 J1 hp => ?_)
                obtain ⟨rfl, rfl, ⟨fXa, pXa⟩, rfl⟩ := hp
                obtain ⟨Xa, eXa⟩ : ∃ z, z = I1 := ⟨_, rfl⟩
                subst eXa
                have hTa : Tkn T n N Xa := Tkn_k (A := 87) (by decide) (f9_X fXa) (Tkn_k (A := 87) (by decide) (fA_X fXw) hT)
                have hOa := OuO_9 (by decide) fXa oXw
                have hfa : fr (qX 87) X0 Xa := fr_t hf (fr_t (fA_X fXw) (f9_X fXa))
                show Rj _ _ _ _ _ _ (83, [some (.ref 95), some (.int 1), some (.int 45), some (.int (nI k)), some (.int 45), some (.int 1)], [], (SS b false), Xa, J, 0, 0)
                refine r_run okX5_readSum 2 (cs := []) (σ' := (87, [some (.ref 95), some (.int 1), some (.int 45), some (.int (nI k)), some (.int 45), some (.int 1)], [.int 47, .int 45], (SS b false), Xa, J, 0, 0)) rfl trivial ?_
                refine r_icmp okX5_readSum rfl (fun (h87 : ¬ (45 : Int32) = (47 : Int32)) => ?_) (fun h870 => ?_)
                · refine r_run okX5_readSum 1 (cs := []) (σ' := (98, [some (.ref 95), some (.int 1), some (.int 45), some (.int (nI k)), some (.int 45), some (.int 1)], [.ref 95], (SS b false), Xa, J, 0, 0)) rfl trivial ?_
                  refine r_callV okX5_readSum okX5_readUnit [] [] 95 rfl rfl rfl kkX5_readUnit rfl rfl (by decide) rfl rfl rfl (by decide) ⟨Nat.le_refl _, Nat.le_refl _⟩ (Nat.le_of_ble_eq_true rfl) (b_unit87 γ hTa pXa hOa (by simp only [List.length_append, List.length_cons, List.length_nil] at *; omega)) (fun v1 S1 I1 J1 hp => ?_)
                  obtain ⟨rfl, rfl, hfr, hr⟩ := hp
                  obtain ⟨Xu, eXu⟩ : ∃ z, z = I1 := ⟨_, rfl⟩
                  subst eXu
                  cases hu : uR T n (i + 1) with
                  | inl e =>
                    rw [hu] at hr
                    obtain ⟨rfl, gF, gE⟩ := hr
                    have hfu : fr (qX 87) X0 Xu := fr_t hfa hfr
                    have hs : SmT T n 1 (some 3) i acc (.inl e) := by unfold SmT; rw [if_pos (Or.inr h)]; simp only [hu]
                    show Rj _ _ _ _ _ _ (101, [some (.ref 95), some (.int 1), some (.int 45), some (.int (nI k)), some (.int 45), some (.int 1)], [.int 0], (SS b false), Xu, J, 0, 0)
                    refine r_run okX5_readSum 2 (cs := []) (σ' := (104, [some (.ref 95), some (.int 0), some (.int 45), some (.int (nI k)), some (.int 45), some (.int 1)], [.int 1], (SS b false), Xu, J, 0, 0)) rfl trivial ?_
                    refine r_ifc okX5_readSum rfl (fun (h104 : (1 : Int32) = (0 : Int32)) => ?_) (fun (h104 : ¬ (1 : Int32) = (0 : Int32)) => ?_)
                    · exact absurd h104 (by decide)
                    · refine r_run okX5_readSum 7 (cs := []) (σ' := (14, [some (.ref 95), some (.int 0), some (.int 45), some (.int ((nI k) + 1)), some (.int 45), some (.int 1)], [.int 800, .int ((nI k) + 1)], (SS b false), Xu, J, 0, 0)) rfl trivial ?_
                      refine r_icmp okX5_readSum rfl (fun (h14_1 : (800 : Int32) ≤ ((nI k) + 1)) => ?_) (fun (h14_1 : ¬ (800 : Int32) ≤ ((nI k) + 1)) => ?_)
                      · refine r_run okX5_readSum 2 (cs := []) (σ' := (140, [some (.ref 95), some (.int 0), some (.int 45), some (.int ((nI k) + 1)), some (.int 45), some (.int 1)], [.int 18, .int 45], (SS b false), Xu, J, 0, 0)) rfl trivial ?_
                        refine r_icmp okX5_readSum rfl (fun (h140 : (45 : Int32) = (18 : Int32)) => ?_) (fun (h140 : ¬ (45 : Int32) = (18 : Int32)) => ?_)
                        · exact absurd h140 (by decide)
                        · refine r_run okX5_readSum 4 (cs := []) (σ' := (149, [some (.ref 95), some (.int 0), some (.int 45), some (.int ((nI k) + 1)), some (.int 45), some (.int 1)], [.int 0, .int 45, .ref 87], (SS b false), Xu, J, 0, 0)) rfl trivial ?_
                          refine r_callV okX5_readSum okX6_add [.int 45, .int 0] [] 87 rfl rfl rfl kkX6_add rfl rfl (by decide) rfl rfl rfl (by decide) ⟨Nat.le_refl _, Nat.le_refl _⟩ (Nat.le_of_ble_eq_true rfl) (a_addF87 γ gF 45 0) (fun v1 S1 I1 J1 hp => ?_)
                          obtain ⟨⟨zXf1, rfl⟩, rfl, ⟨fXf1, oXf1⟩, rfl⟩ := hp
                          obtain ⟨Xf1, eXf1⟩ : ∃ z, z = I1 := ⟨_, rfl⟩
                          subst eXf1
                          show Rj _ _ _ _ _ _ (152, [some (.ref 95), some (.int 0), some (.int 45), some (.int ((nI k) + 1)), some (.int 45), some (.int 1)], [.int zXf1], (SS b false), Xf1, J, 0, 0)
                          refine r_run okX5_readSum 2 (cs := []) (σ' := (154, [some (.ref 95), some (.int 0), some (.int 45), some (.int ((nI k) + 1)), some (.int 45), some (.int 1)], [.int 0], (SS b false), Xf1, J, 0, 0)) rfl trivial ?_
                          refine r_iret okX5_readSum rfl rfl (by decide +kernel) (Nat.le_refl _) (Nat.le_refl _) ?_
                          exact ⟨rfl, rfl, .inl e, hd _ ⟨1, hs⟩, (fr_t hfu (fA_X fXf1)), rfl, oXf1, (FlO_k (by decide) fXf1 gE)⟩
                      · refine r_run okX5_readSum 1 (cs := []) (σ' := (18, [some (.ref 95), some (.int 0), some (.int 45), some (.int ((nI k) + 1)), some (.int 45), some (.int 1)], [.int 0], (SS b false), Xu, J, 0, 0)) rfl trivial ?_
                        refine r_ifc okX5_readSum rfl (fun (h18_1 : (0 : Int32) = (0 : Int32)) => ?_) (fun (h18_1 : ¬ (0 : Int32) = (0 : Int32)) => ?_)
                        · refine r_run okX5_readSum 2 (cs := []) (σ' := (140, [some (.ref 95), some (.int 0), some (.int 45), some (.int ((nI k) + 1)), some (.int 45), some (.int 1)], [.int 18, .int 45], (SS b false), Xu, J, 0, 0)) rfl trivial ?_
                          refine r_icmp okX5_readSum rfl (fun (h140_1 : (45 : Int32) = (18 : Int32)) => ?_) (fun (h140_1 : ¬ (45 : Int32) = (18 : Int32)) => ?_)
                          · exact absurd h140_1 (by decide)
                          · refine r_run okX5_readSum 4 (cs := []) (σ' := (149, [some (.ref 95), some (.int 0), some (.int 45), some (.int ((nI k) + 1)), some (.int 45), some (.int 1)], [.int 0, .int 45, .ref 87], (SS b false), Xu, J, 0, 0)) rfl trivial ?_
                            refine r_callV okX5_readSum okX6_add [.int 45, .int 0] [] 87 rfl rfl rfl kkX6_add rfl rfl (by decide) rfl rfl rfl (by decide) ⟨Nat.le_refl _, Nat.le_refl _⟩ (Nat.le_of_ble_eq_true rfl) (a_addF87 γ gF 45 0) (fun v1 S1 I1 J1 hp => ?_)
                            obtain ⟨⟨zXf1, rfl⟩, rfl, ⟨fXf1, oXf1⟩, rfl⟩ := hp
                            obtain ⟨Xf1, eXf1⟩ : ∃ z, z = I1 := ⟨_, rfl⟩
                            subst eXf1
                            show Rj _ _ _ _ _ _ (152, [some (.ref 95), some (.int 0), some (.int 45), some (.int ((nI k) + 1)), some (.int 45), some (.int 1)], [.int zXf1], (SS b false), Xf1, J, 0, 0)
                            refine r_run okX5_readSum 2 (cs := []) (σ' := (154, [some (.ref 95), some (.int 0), some (.int 45), some (.int ((nI k) + 1)), some (.int 45), some (.int 1)], [.int 0], (SS b false), Xf1, J, 0, 0)) rfl trivial ?_
                            refine r_iret okX5_readSum rfl rfl (by decide +kernel) (Nat.le_refl _) (Nat.le_refl _) ?_
                            exact ⟨rfl, rfl, .inl e, hd _ ⟨1, hs⟩, (fr_t hfu (fA_X fXf1)), rfl, oXf1, (FlO_k (by decide) fXf1 gE)⟩
                        · exact absurd h18_1 (by decide)
                  | inr q =>
                    rw [hu] at hr
                    obtain ⟨rfl, gP, gO⟩ := hr
                    have hq1 := uR_l1 hu
                    have hq2 := gP.1
                    show Rj _ _ _ _ _ _ (101, [some (.ref 95), some (.int 1), some (.int 45), some (.int (nI k)), some (.int 45), some (.int 1)], [.int 1], (SS b false), Xu, J, 0, 0)
                    refine r_run okX5_readSum 2 (cs := []) (σ' := (104, [some (.ref 95), some (.int 1), some (.int 45), some (.int (nI k)), some (.int 45), some (.int 1)], [.int 1], (SS b false), Xu, J, 0, 0)) rfl trivial ?_
                    refine r_ifc okX5_readSum rfl (fun (h104_1 : (1 : Int32) = (0 : Int32)) => ?_) (fun (h104_1 : ¬ (1 : Int32) = (0 : Int32)) => ?_)
                    · exact absurd h104_1 (by decide)
                    · refine r_run okX5_readSum 5 (cs := []) (σ' := (10, [some (.ref 95), some (.int 1), some (.int 45), some (.int ((nI k) + 1)), some (.int 45), some (.int 1)], [], (SS b false), Xu, J, 0, 0)) rfl trivial ?_
                      rw [← nI_succ]
                      refine r_weak (L' := [some (.ref 95), some (.int 1), some (.int 45), some (.int (nI (k + 1))), none, none]) ⟨rfl, rfl, rfl, rfl, trivial⟩ ?_
                      refine K q _ hu (Tkn_k (A := 87) (by decide) hfr hTa) gP ?_ (fr_t hfa hfr)
                      rw [show l ++ (acc ++ wC (some 3) ++ q.1) = l ++ acc ++ wC (some 3) ++ q.1 by simp only [List.append_assoc]]
                      exact gO
                · have h87 : (45 : Int32) = (47 : Int32) := Classical.not_not.mp h870
                  exact absurd h87 (by decide)
theorem sm_42_2_87 (γ : GE) {b : Bool} {J : AJ} {T : Nat → Int32} {n N i0 : Nat} {l : Cd} {X0 : AI} {X : AI} {i k : Nat} {acc : Cd} (h : kK T n i = 42) (hT : Tkn T n N X) (hP : PsO T n N X i) (hO : OuO X 87 (l ++ acc)) (hl : (l ++ acc).length + (wC (some 3)).length ≤ i) (hk : k ≤ i) (hf : fr (qX 87) X0 X) (hd : ∀ res, (∃ f, SmT T n f (some 3) i acc res) → Sm T n i0 res) (K : ∀ (q : Cd × Nat) (Y : AI), uR T n (i + 1) = .inr q → Tkn T n N Y → PsO T n N Y q.2 → OuO Y 87 (l ++ (acc ++ q.1 ++ [(4, 0)])) → fr (qX 87) X0 Y → Rj γ mX5_readSum 2 0 0 (fun r S' I' J' => (SS b false) = S' ∧ J = J' ∧ ∃ res, Sm T n i0 res ∧ RsO T n N 87 X0 l res r I') (10, [some (.ref 95), some (.int 1), some (.int 45), some (.int (nI (k + 1))), none, none], [], (SS b false), Y, J, 0, 0)) : Rj γ mX5_readSum 2 0 0 (fun r S' I' J' => (SS b false) = S' ∧ J = J' ∧ ∃ res, Sm T n i0 res ∧ RsO T n N 87 X0 l res r I') (10, [some (.ref 95), some (.int 1), some (.int 45), some (.int (nI k)), none, none], [], (SS b false), X, J, 0, 0) := by
  have hlw : (wC (some 3)).length = 1 := rfl
  have hN := hT.1
  have hiN := hP.1
  have e7 : X 95 7 = 42 := hP.2.2.1.trans h
  have hi : i < N := kK_lt hT hiN (by rw [h]; decide)
  refine r_run okX5_readSum 2 (cs := []) (σ' := (14, [some (.ref 95), some (.int 1), some (.int 45), some (.int (nI k)), none, none], [.int 800, .int (nI k)], (SS b false), X, J, 0, 0)) rfl trivial ?_
  refine r_icmp okX5_readSum rfl (fun (h14 : (800 : Int32) ≤ (nI k)) => ?_) (fun (h14 : ¬ (800 : Int32) ≤ (nI k)) => ?_)
  · exact absurd h14 (nI_ge (b := 800) (by omega) (by decide))
  · refine r_run okX5_readSum 1 (cs := []) (σ' := (18, [some (.ref 95), some (.int 1), some (.int 45), some (.int (nI k)), none, none], [.int 1], (SS b false), X, J, 0, 0)) rfl trivial ?_
    refine r_ifc okX5_readSum rfl (fun (h18 : (1 : Int32) = (0 : Int32)) => ?_) (fun (h18 : ¬ (1 : Int32) = (0 : Int32)) => ?_)
    · exact absurd h18 (by decide)
    · refine r_run okX5_readSum 2 (cs := []) (σ' := (25, [some (.ref 95), some (.int 1), some (.int 45), some (.int (nI k)), none, none], [.int (X 95 7)], (SS b false), X, J, 0, 0)) rfl trivial ?_
      simp only [e7]
      show Rj _ _ _ _ _ _ (25, [some (.ref 95), some (.int 1), some (.int 45), some (.int (nI k)), none, none], [.int 42], (SS b false), X, J, 0, 0)
      refine r_callS okX5_readSum okX5_isReckoning [.int 42] [] rfl rfl rfl kkX5_isReckoning rfl rfl (by decide) (by decide) ⟨Nat.le_refl _, Nat.le_refl _⟩ (Nat.le_of_ble_eq_true rfl) (b_rk42 γ) (fun v1 S1 I1 J1 hp => ?_)
      obtain ⟨rfl, rfl, rfl, rfl⟩ := hp
      show Rj _ _ _ _ _ _ (28, [some (.ref 95), some (.int 1), some (.int 45), some (.int (nI k)), none, none], [.int 1], (SS b false), X, J, 0, 0)
      refine r_ifc okX5_readSum rfl (fun (h28 : (1 : Int32) = (0 : Int32)) => ?_) (fun (h28 : ¬ (1 : Int32) = (0 : Int32)) => ?_)
      · exact absurd h28 (by decide)
      · refine r_run okX5_readSum 5 (cs := []) (σ' := (41, [some (.ref 95), some (.int 1), some (.int 45), some (.int (nI k)), some (.int (X 95 7)), none], [.int 43, .int (X 95 7)], (SS b false), X, J, 0, 0)) rfl trivial ?_
        simp only [e7]
        show Rj _ _ _ _ _ _ (41, [some (.ref 95), some (.int 1), some (.int 45), some (.int (nI k)), some (.int 42), none], [.int 43, .int 42], (SS b false), X, J, 0, 0)
        refine r_icmp okX5_readSum rfl (fun (h41 : (42 : Int32) = (43 : Int32)) => ?_) (fun (h41 : ¬ (42 : Int32) = (43 : Int32)) => ?_)
        · exact absurd h41 (by decide)
        · refine r_run okX5_readSum 2 (cs := []) (σ' := (48, [some (.ref 95), some (.int 1), some (.int 45), some (.int (nI k)), some (.int 42), none], [.int 45, .int 42], (SS b false), X, J, 0, 0)) rfl trivial ?_
          refine r_icmp okX5_readSum rfl (fun (h48 : ¬ (42 : Int32) = (45 : Int32)) => ?_) (fun h480 => ?_)
          · refine r_run okX5_readSum 3 (cs := []) (σ' := (60, [some (.ref 95), some (.int 1), some (.int 45), some (.int (nI k)), some (.int 42), some (.int 0)], [.int 0], (SS b false), X, J, 0, 0)) rfl trivial ?_
            refine r_ifc okX5_readSum rfl (fun (h60 : (0 : Int32) = (0 : Int32)) => ?_) (fun (h60 : ¬ (0 : Int32) = (0 : Int32)) => ?_)
            · refine r_run okX5_readSum 1 (cs := []) (σ' := (80, [some (.ref 95), some (.int 1), some (.int 45), some (.int (nI k)), some (.int 42), some (.int 0)], [.ref 95], (SS b false), X, J, 0, 0)) rfl trivial ?_
              refine r_callV okX5_readSum okX5_advance [] [] 95 rfl rfl rfl kkX5_advance rfl rfl (by decide) rfl rfl rfl (by decide) ⟨Nat.le_refl _, Nat.le_refl _⟩ (Nat.le_of_ble_eq_true rfl) (b_adv87 γ hT hP hi) (fun v1 S1 I1 J1 hp => ?_)
              obtain ⟨rfl, rfl, ⟨fXa, pXa⟩, rfl⟩ := hp
              obtain ⟨Xa, eXa⟩ : ∃ z, z = I1 := ⟨_, rfl⟩
              subst eXa
              have hTa : Tkn T n N Xa := Tkn_k (A := 87) (by decide) (f9_X fXa) hT
              have hOa := OuO_9 (by decide) fXa hO
              have hfa : fr (qX 87) X0 Xa := fr_t hf (f9_X fXa)
              show Rj _ _ _ _ _ _ (83, [some (.ref 95), some (.int 1), some (.int 45), some (.int (nI k)), some (.int 42), some (.int 0)], [], (SS b false), Xa, J, 0, 0)
              refine r_run okX5_readSum 2 (cs := []) (σ' := (87, [some (.ref 95), some (.int 1), some (.int 45), some (.int (nI k)), some (.int 42), some (.int 0)], [.int 47, .int 42], (SS b false), Xa, J, 0, 0)) rfl trivial ?_
              refine r_icmp okX5_readSum rfl (fun (h87 : ¬ (42 : Int32) = (47 : Int32)) => ?_) (fun h870 => ?_)
              · refine r_run okX5_readSum 1 (cs := []) (σ' := (98, [some (.ref 95), some (.int 1), some (.int 45), some (.int (nI k)), some (.int 42), some (.int 0)], [.ref 95], (SS b false), Xa, J, 0, 0)) rfl trivial ?_
                refine r_callV okX5_readSum okX5_readUnit [] [] 95 rfl rfl rfl kkX5_readUnit rfl rfl (by decide) rfl rfl rfl (by decide) ⟨Nat.le_refl _, Nat.le_refl _⟩ (Nat.le_of_ble_eq_true rfl) (b_unit87 γ hTa pXa hOa (by simp only [List.length_append, List.length_cons, List.length_nil] at *; omega)) (fun v1 S1 I1 J1 hp => ?_)
                obtain ⟨rfl, rfl, hfr, hr⟩ := hp
                obtain ⟨Xu, eXu⟩ : ∃ z, z = I1 := ⟨_, rfl⟩
                subst eXu
                cases hu : uR T n (i + 1) with
                | inl e =>
                  rw [hu] at hr
                  obtain ⟨rfl, gF, gE⟩ := hr
                  have hfu : fr (qX 87) X0 Xu := fr_t hfa hfr
                  have hs : SmT T n 1 (some 3) i acc (.inl e) := by unfold SmT; rw [if_neg (by rw [h]; decide), if_pos h]; simp only [hu]
                  show Rj _ _ _ _ _ _ (101, [some (.ref 95), some (.int 1), some (.int 45), some (.int (nI k)), some (.int 42), some (.int 0)], [.int 0], (SS b false), Xu, J, 0, 0)
                  refine r_run okX5_readSum 2 (cs := []) (σ' := (104, [some (.ref 95), some (.int 0), some (.int 45), some (.int (nI k)), some (.int 42), some (.int 0)], [.int 0], (SS b false), Xu, J, 0, 0)) rfl trivial ?_
                  refine r_ifc okX5_readSum rfl (fun (h104 : (0 : Int32) = (0 : Int32)) => ?_) (fun (h104 : ¬ (0 : Int32) = (0 : Int32)) => ?_)
                  · refine r_run okX5_readSum 2 (cs := []) (σ' := (117, [some (.ref 95), some (.int 0), some (.int 45), some (.int (nI k)), some (.int 42), some (.int 0)], [.int 42, .int 42], (SS b false), Xu, J, 0, 0)) rfl trivial ?_
                    refine r_icmp okX5_readSum rfl (fun (h117 : ¬ (42 : Int32) = (42 : Int32)) => ?_) (fun h1170 => ?_)
                    · exact absurd h117 (by decide)
                    · have h117 : (42 : Int32) = (42 : Int32) := Classical.not_not.mp h1170
                      refine r_run okX5_readSum 4 (cs := []) (σ' := (127, [some (.ref 95), some (.int 0), some (.int 45), some (.int (nI k)), some (.int 42), some (.int 0)], [.int 0, .int 42, .ref 87], (SS b false), Xu, J, 0, 0)) rfl trivial ?_
                      refine r_callV okX5_readSum okX6_add [.int 42, .int 0] [] 87 rfl rfl rfl kkX6_add rfl rfl (by decide) rfl rfl rfl (by decide) ⟨Nat.le_refl _, Nat.le_refl _⟩ (Nat.le_of_ble_eq_true rfl) (a_addF87 γ gF 42 0) (fun v1 S1 I1 J1 hp => ?_)
                      obtain ⟨⟨zXf1, rfl⟩, rfl, ⟨fXf1, oXf1⟩, rfl⟩ := hp
                      obtain ⟨Xf1, eXf1⟩ : ∃ z, z = I1 := ⟨_, rfl⟩
                      subst eXf1
                      show Rj _ _ _ _ _ _ (130, [some (.ref 95), some (.int 0), some (.int 45), some (.int (nI k)), some (.int 42), some (.int 0)], [.int zXf1], (SS b false), Xf1, J, 0, 0)
                      refine r_run okX5_readSum 5 (cs := []) (σ' := (14, [some (.ref 95), some (.int 0), some (.int 45), some (.int ((nI k) + 1)), some (.int 42), some (.int 0)], [.int 800, .int ((nI k) + 1)], (SS b false), Xf1, J, 0, 0)) rfl trivial ?_
                      refine r_icmp okX5_readSum rfl (fun (h14_1 : (800 : Int32) ≤ ((nI k) + 1)) => ?_) (fun (h14_1 : ¬ (800 : Int32) ≤ ((nI k) + 1)) => ?_)
                      · refine r_run okX5_readSum 2 (cs := []) (σ' := (140, [some (.ref 95), some (.int 0), some (.int 45), some (.int ((nI k) + 1)), some (.int 42), some (.int 0)], [.int 18, .int 45], (SS b false), Xf1, J, 0, 0)) rfl trivial ?_
                        refine r_icmp okX5_readSum rfl (fun (h140 : (45 : Int32) = (18 : Int32)) => ?_) (fun (h140 : ¬ (45 : Int32) = (18 : Int32)) => ?_)
                        · exact absurd h140 (by decide)
                        · refine r_run okX5_readSum 4 (cs := []) (σ' := (149, [some (.ref 95), some (.int 0), some (.int 45), some (.int ((nI k) + 1)), some (.int 42), some (.int 0)], [.int 0, .int 45, .ref 87], (SS b false), Xf1, J, 0, 0)) rfl trivial ?_
                          refine r_callV okX5_readSum okX6_add [.int 45, .int 0] [] 87 rfl rfl rfl kkX6_add rfl rfl (by decide) rfl rfl rfl (by decide) ⟨Nat.le_refl _, Nat.le_refl _⟩ (Nat.le_of_ble_eq_true rfl) (a_addF87 γ oXf1 45 0) (fun v1 S1 I1 J1 hp => ?_)
                          obtain ⟨⟨zXf2, rfl⟩, rfl, ⟨fXf2, oXf2⟩, rfl⟩ := hp
                          obtain ⟨Xf2, eXf2⟩ : ∃ z, z = I1 := ⟨_, rfl⟩
                          subst eXf2
                          show Rj _ _ _ _ _ _ (152, [some (.ref 95), some (.int 0), some (.int 45), some (.int ((nI k) + 1)), some (.int 42), some (.int 0)], [.int zXf2], (SS b false), Xf2, J, 0, 0)
                          refine r_run okX5_readSum 2 (cs := []) (σ' := (154, [some (.ref 95), some (.int 0), some (.int 45), some (.int ((nI k) + 1)), some (.int 42), some (.int 0)], [.int 0], (SS b false), Xf2, J, 0, 0)) rfl trivial ?_
                          refine r_iret okX5_readSum rfl rfl (by decide +kernel) (Nat.le_refl _) (Nat.le_refl _) ?_
                          exact ⟨rfl, rfl, .inl e, hd _ ⟨1, hs⟩, (fr_t (fr_t hfu (fA_X fXf1)) (fA_X fXf2)), rfl, oXf2, (FlO_k (by decide) fXf2 (FlO_k (by decide) fXf1 gE))⟩
                      · refine r_run okX5_readSum 1 (cs := []) (σ' := (18, [some (.ref 95), some (.int 0), some (.int 45), some (.int ((nI k) + 1)), some (.int 42), some (.int 0)], [.int 0], (SS b false), Xf1, J, 0, 0)) rfl trivial ?_
                        refine r_ifc okX5_readSum rfl (fun (h18_1 : (0 : Int32) = (0 : Int32)) => ?_) (fun (h18_1 : ¬ (0 : Int32) = (0 : Int32)) => ?_)
                        · refine r_run okX5_readSum 2 (cs := []) (σ' := (140, [some (.ref 95), some (.int 0), some (.int 45), some (.int ((nI k) + 1)), some (.int 42), some (.int 0)], [.int 18, .int 45], (SS b false), Xf1, J, 0, 0)) rfl trivial ?_
                          refine r_icmp okX5_readSum rfl (fun (h140_1 : (45 : Int32) = (18 : Int32)) => ?_) (fun (h140_1 : ¬ (45 : Int32) = (18 : Int32)) => ?_)
                          · exact absurd h140_1 (by decide)
                          · refine r_run okX5_readSum 4 (cs := []) (σ' := (149, [some (.ref 95), some (.int 0), some (.int 45), some (.int ((nI k) + 1)), some (.int 42), some (.int 0)], [.int 0, .int 45, .ref 87], (SS b false), Xf1, J, 0, 0)) rfl trivial ?_
                            refine r_callV okX5_readSum okX6_add [.int 45, .int 0] [] 87 rfl rfl rfl kkX6_add rfl rfl (by decide) rfl rfl rfl (by decide) ⟨Nat.le_refl _, Nat.le_refl _⟩ (Nat.le_of_ble_eq_true rfl) (a_addF87 γ oXf1 45 0) (fun v1 S1 I1 J1 hp => ?_)
                            obtain ⟨⟨zXf2, rfl⟩, rfl, ⟨fXf2, oXf2⟩, rfl⟩ := hp
                            obtain ⟨Xf2, eXf2⟩ : ∃ z, z = I1 := ⟨_, rfl⟩
                            subst eXf2
                            show Rj _ _ _ _ _ _ (152, [some (.ref 95), some (.int 0), some (.int 45), some (.int ((nI k) + 1)), some (.int 42), some (.int 0)], [.int zXf2], (SS b false), Xf2, J, 0, 0)
                            refine r_run okX5_readSum 2 (cs := []) (σ' := (154, [some (.ref 95), some (.int 0), some (.int 45), some (.int ((nI k) + 1)), some (.int 42), some (.int 0)], [.int 0], (SS b false), Xf2, J, 0, 0)) rfl trivial ?_
                            refine r_iret okX5_readSum rfl rfl (by decide +kernel) (Nat.le_refl _) (Nat.le_refl _) ?_
                            exact ⟨rfl, rfl, .inl e, hd _ ⟨1, hs⟩, (fr_t (fr_t hfu (fA_X fXf1)) (fA_X fXf2)), rfl, oXf2, (FlO_k (by decide) fXf2 (FlO_k (by decide) fXf1 gE))⟩
                        · exact absurd h18_1 (by decide)
                  · exact absurd h104 (by decide)
                | inr q =>
                  rw [hu] at hr
                  obtain ⟨rfl, gP, gO⟩ := hr
                  have hq1 := uR_l1 hu
                  have hq2 := gP.1
                  show Rj _ _ _ _ _ _ (101, [some (.ref 95), some (.int 1), some (.int 45), some (.int (nI k)), some (.int 42), some (.int 0)], [.int 1], (SS b false), Xu, J, 0, 0)
                  refine r_run okX5_readSum 2 (cs := []) (σ' := (104, [some (.ref 95), some (.int 1), some (.int 45), some (.int (nI k)), some (.int 42), some (.int 0)], [.int 0], (SS b false), Xu, J, 0, 0)) rfl trivial ?_
                  refine r_ifc okX5_readSum rfl (fun (h104_1 : (0 : Int32) = (0 : Int32)) => ?_) (fun (h104_1 : ¬ (0 : Int32) = (0 : Int32)) => ?_)
                  · refine r_run okX5_readSum 2 (cs := []) (σ' := (117, [some (.ref 95), some (.int 1), some (.int 45), some (.int (nI k)), some (.int 42), some (.int 0)], [.int 42, .int 42], (SS b false), Xu, J, 0, 0)) rfl trivial ?_
                    refine r_icmp okX5_readSum rfl (fun (h117_1 : ¬ (42 : Int32) = (42 : Int32)) => ?_) (fun h117_10 => ?_)
                    · exact absurd h117_1 (by decide)
                    · have h117_1 : (42 : Int32) = (42 : Int32) := Classical.not_not.mp h117_10
                      refine r_run okX5_readSum 4 (cs := []) (σ' := (127, [some (.ref 95), some (.int 1), some (.int 45), some (.int (nI k)), some (.int 42), some (.int 0)], [.int 0, .int 42, .ref 87], (SS b false), Xu, J, 0, 0)) rfl trivial ?_
                      refine r_callV okX5_readSum okX6_add [.int 42, .int 0] [] 87 rfl rfl rfl kkX6_add rfl rfl (by decide) rfl rfl rfl (by decide) ⟨Nat.le_refl _, Nat.le_refl _⟩ (Nat.le_of_ble_eq_true rfl) (a_add87 γ gO (by simp only [List.length_append, List.length_cons, List.length_nil] at *; omega) (p := (4, 0)) rfl) (fun v1 S1 I1 J1 hp => ?_)
                      obtain ⟨rfl, rfl, ⟨fXg, oXg⟩, rfl⟩ := hp
                      obtain ⟨Xg, eXg⟩ : ∃ z, z = I1 := ⟨_, rfl⟩
                      subst eXg
                      show Rj _ _ _ _ _ _ (130, [some (.ref 95), some (.int 1), some (.int 45), some (.int (nI k)), some (.int 42), some (.int 0)], [.int 1], (SS b false), Xg, J, 0, 0)
                      refine r_run okX5_readSum 3 (cs := []) (σ' := (10, [some (.ref 95), some (.int 1), some (.int 45), some (.int ((nI k) + 1)), some (.int 42), some (.int 0)], [], (SS b false), Xg, J, 0, 0)) rfl trivial ?_
                      rw [← nI_succ]
                      refine r_weak (L' := [some (.ref 95), some (.int 1), some (.int 45), some (.int (nI (k + 1))), none, none]) ⟨rfl, rfl, rfl, rfl, trivial⟩ ?_
                      refine K q _ hu (Tkn_k (A := 87) (by decide) (fA_X fXg) (Tkn_k (A := 87) (by decide) hfr hTa)) (PsO_k (by decide) fXg gP) ?_ (fr_t (fr_t hfa hfr) (fA_X fXg))
                      rw [show l ++ (acc ++ q.1 ++ [(4, 0)]) = l ++ acc ++ q.1 ++ [(4, 0)] by simp only [List.append_assoc]]
                      exact oXg
                  · exact absurd h104_1 (by decide)
              · have h87 : (42 : Int32) = (47 : Int32) := Classical.not_not.mp h870
                exact absurd h87 (by decide)
            · exact absurd h60 (by decide)
          · have h48 : (42 : Int32) = (45 : Int32) := Classical.not_not.mp h480
            exact absurd h48 (by decide)
theorem sm_47_2_87 (γ : GE) {b : Bool} {J : AJ} {T : Nat → Int32} {n N i0 : Nat} {l : Cd} {X0 : AI} {X : AI} {i k : Nat} {acc : Cd} (h : kK T n i = 47) (hT : Tkn T n N X) (hP : PsO T n N X i) (hO : OuO X 87 (l ++ acc)) (hl : (l ++ acc).length + (wC (some 3)).length ≤ i) (hk : k ≤ i) (hf : fr (qX 87) X0 X) (hd : ∀ res, (∃ f, SmT T n f (some 3) i acc res) → Sm T n i0 res) (K : ∀ (q : Cd × Nat) (Y : AI), dR T n (i + 1) = .inr q → Tkn T n N Y → PsO T n N Y q.2 → OuO Y 87 (l ++ (acc ++ q.1)) → fr (qX 87) X0 Y → Rj γ mX5_readSum 2 0 0 (fun r S' I' J' => (SS b false) = S' ∧ J = J' ∧ ∃ res, Sm T n i0 res ∧ RsO T n N 87 X0 l res r I') (10, [some (.ref 95), some (.int 1), some (.int 45), some (.int (nI (k + 1))), none, none], [], (SS b false), Y, J, 0, 0)) : Rj γ mX5_readSum 2 0 0 (fun r S' I' J' => (SS b false) = S' ∧ J = J' ∧ ∃ res, Sm T n i0 res ∧ RsO T n N 87 X0 l res r I') (10, [some (.ref 95), some (.int 1), some (.int 45), some (.int (nI k)), none, none], [], (SS b false), X, J, 0, 0) := by
  have hlw : (wC (some 3)).length = 1 := rfl
  have hN := hT.1
  have hiN := hP.1
  have e7 : X 95 7 = 47 := hP.2.2.1.trans h
  have hi : i < N := kK_lt hT hiN (by rw [h]; decide)
  refine r_run okX5_readSum 2 (cs := []) (σ' := (14, [some (.ref 95), some (.int 1), some (.int 45), some (.int (nI k)), none, none], [.int 800, .int (nI k)], (SS b false), X, J, 0, 0)) rfl trivial ?_
  refine r_icmp okX5_readSum rfl (fun (h14 : (800 : Int32) ≤ (nI k)) => ?_) (fun (h14 : ¬ (800 : Int32) ≤ (nI k)) => ?_)
  · exact absurd h14 (nI_ge (b := 800) (by omega) (by decide))
  · refine r_run okX5_readSum 1 (cs := []) (σ' := (18, [some (.ref 95), some (.int 1), some (.int 45), some (.int (nI k)), none, none], [.int 1], (SS b false), X, J, 0, 0)) rfl trivial ?_
    refine r_ifc okX5_readSum rfl (fun (h18 : (1 : Int32) = (0 : Int32)) => ?_) (fun (h18 : ¬ (1 : Int32) = (0 : Int32)) => ?_)
    · exact absurd h18 (by decide)
    · refine r_run okX5_readSum 2 (cs := []) (σ' := (25, [some (.ref 95), some (.int 1), some (.int 45), some (.int (nI k)), none, none], [.int (X 95 7)], (SS b false), X, J, 0, 0)) rfl trivial ?_
      simp only [e7]
      show Rj _ _ _ _ _ _ (25, [some (.ref 95), some (.int 1), some (.int 45), some (.int (nI k)), none, none], [.int 47], (SS b false), X, J, 0, 0)
      refine r_callS okX5_readSum okX5_isReckoning [.int 47] [] rfl rfl rfl kkX5_isReckoning rfl rfl (by decide) (by decide) ⟨Nat.le_refl _, Nat.le_refl _⟩ (Nat.le_of_ble_eq_true rfl) (b_rk47 γ) (fun v1 S1 I1 J1 hp => ?_)
      obtain ⟨rfl, rfl, rfl, rfl⟩ := hp
      show Rj _ _ _ _ _ _ (28, [some (.ref 95), some (.int 1), some (.int 45), some (.int (nI k)), none, none], [.int 1], (SS b false), X, J, 0, 0)
      refine r_ifc okX5_readSum rfl (fun (h28 : (1 : Int32) = (0 : Int32)) => ?_) (fun (h28 : ¬ (1 : Int32) = (0 : Int32)) => ?_)
      · exact absurd h28 (by decide)
      · refine r_run okX5_readSum 5 (cs := []) (σ' := (41, [some (.ref 95), some (.int 1), some (.int 45), some (.int (nI k)), some (.int (X 95 7)), none], [.int 43, .int (X 95 7)], (SS b false), X, J, 0, 0)) rfl trivial ?_
        simp only [e7]
        show Rj _ _ _ _ _ _ (41, [some (.ref 95), some (.int 1), some (.int 45), some (.int (nI k)), some (.int 47), none], [.int 43, .int 47], (SS b false), X, J, 0, 0)
        refine r_icmp okX5_readSum rfl (fun (h41 : (47 : Int32) = (43 : Int32)) => ?_) (fun (h41 : ¬ (47 : Int32) = (43 : Int32)) => ?_)
        · exact absurd h41 (by decide)
        · refine r_run okX5_readSum 2 (cs := []) (σ' := (48, [some (.ref 95), some (.int 1), some (.int 45), some (.int (nI k)), some (.int 47), none], [.int 45, .int 47], (SS b false), X, J, 0, 0)) rfl trivial ?_
          refine r_icmp okX5_readSum rfl (fun (h48 : ¬ (47 : Int32) = (45 : Int32)) => ?_) (fun h480 => ?_)
          · refine r_run okX5_readSum 3 (cs := []) (σ' := (60, [some (.ref 95), some (.int 1), some (.int 45), some (.int (nI k)), some (.int 47), some (.int 0)], [.int 0], (SS b false), X, J, 0, 0)) rfl trivial ?_
            refine r_ifc okX5_readSum rfl (fun (h60 : (0 : Int32) = (0 : Int32)) => ?_) (fun (h60 : ¬ (0 : Int32) = (0 : Int32)) => ?_)
            · refine r_run okX5_readSum 1 (cs := []) (σ' := (80, [some (.ref 95), some (.int 1), some (.int 45), some (.int (nI k)), some (.int 47), some (.int 0)], [.ref 95], (SS b false), X, J, 0, 0)) rfl trivial ?_
              refine r_callV okX5_readSum okX5_advance [] [] 95 rfl rfl rfl kkX5_advance rfl rfl (by decide) rfl rfl rfl (by decide) ⟨Nat.le_refl _, Nat.le_refl _⟩ (Nat.le_of_ble_eq_true rfl) (b_adv87 γ hT hP hi) (fun v1 S1 I1 J1 hp => ?_)
              obtain ⟨rfl, rfl, ⟨fXa, pXa⟩, rfl⟩ := hp
              obtain ⟨Xa, eXa⟩ : ∃ z, z = I1 := ⟨_, rfl⟩
              subst eXa
              have hTa : Tkn T n N Xa := Tkn_k (A := 87) (by decide) (f9_X fXa) hT
              have hOa := OuO_9 (by decide) fXa hO
              have hfa : fr (qX 87) X0 Xa := fr_t hf (f9_X fXa)
              show Rj _ _ _ _ _ _ (83, [some (.ref 95), some (.int 1), some (.int 45), some (.int (nI k)), some (.int 47), some (.int 0)], [], (SS b false), Xa, J, 0, 0)
              refine r_run okX5_readSum 2 (cs := []) (σ' := (87, [some (.ref 95), some (.int 1), some (.int 45), some (.int (nI k)), some (.int 47), some (.int 0)], [.int 47, .int 47], (SS b false), Xa, J, 0, 0)) rfl trivial ?_
              refine r_icmp okX5_readSum rfl (fun (h87 : ¬ (47 : Int32) = (47 : Int32)) => ?_) (fun h870 => ?_)
              · exact absurd h87 (by decide)
              · have h87 : (47 : Int32) = (47 : Int32) := Classical.not_not.mp h870
                refine r_run okX5_readSum 1 (cs := []) (σ' := (91, [some (.ref 95), some (.int 1), some (.int 45), some (.int (nI k)), some (.int 47), some (.int 0)], [.ref 95], (SS b false), Xa, J, 0, 0)) rfl trivial ?_
                refine r_callV okX5_readSum okX5_readDivisor [] [] 95 rfl rfl rfl kkX5_readDivisor rfl rfl (by decide) rfl rfl rfl (by decide) ⟨Nat.le_refl _, Nat.le_refl _⟩ (Nat.le_of_ble_eq_true rfl) (b_div87 γ hTa pXa hOa (by simp only [List.length_append, List.length_cons, List.length_nil] at *; omega)) (fun v1 S1 I1 J1 hp => ?_)
                obtain ⟨rfl, rfl, hfr, hr⟩ := hp
                obtain ⟨Xu, eXu⟩ : ∃ z, z = I1 := ⟨_, rfl⟩
                subst eXu
                cases hu : dR T n (i + 1) with
                | inl e =>
                  rw [hu] at hr
                  obtain ⟨rfl, gF, gE⟩ := hr
                  have hfu : fr (qX 87) X0 Xu := fr_t hfa hfr
                  have hs : SmT T n 1 (some 3) i acc (.inl e) := by
                    unfold SmT; rw [if_neg (by rw [h]; decide), if_neg (by rw [h]; decide), if_pos h]; unfold dR at hu
                    split at hu
                    · rename_i z1; rw [if_pos z1]; split at hu
                      · rename_i z2; rw [if_pos z2]; cases hu; rfl
                      · cases hu
                    · rename_i z1; rw [if_neg z1]; cases hu; rfl
                  show Rj _ _ _ _ _ _ (94, [some (.ref 95), some (.int 1), some (.int 45), some (.int (nI k)), some (.int 47), some (.int 0)], [.int 0], (SS b false), Xu, J, 0, 0)
                  refine r_run okX5_readSum 3 (cs := []) (σ' := (104, [some (.ref 95), some (.int 0), some (.int 45), some (.int (nI k)), some (.int 47), some (.int 0)], [.int 0], (SS b false), Xu, J, 0, 0)) rfl trivial ?_
                  refine r_ifc okX5_readSum rfl (fun (h104 : (0 : Int32) = (0 : Int32)) => ?_) (fun (h104 : ¬ (0 : Int32) = (0 : Int32)) => ?_)
                  · refine r_run okX5_readSum 2 (cs := []) (σ' := (117, [some (.ref 95), some (.int 0), some (.int 45), some (.int (nI k)), some (.int 47), some (.int 0)], [.int 42, .int 47], (SS b false), Xu, J, 0, 0)) rfl trivial ?_
                    refine r_icmp okX5_readSum rfl (fun (h117 : ¬ (47 : Int32) = (42 : Int32)) => ?_) (fun h1170 => ?_)
                    · refine r_run okX5_readSum 4 (cs := []) (σ' := (14, [some (.ref 95), some (.int 0), some (.int 45), some (.int ((nI k) + 1)), some (.int 47), some (.int 0)], [.int 800, .int ((nI k) + 1)], (SS b false), Xu, J, 0, 0)) rfl trivial ?_
                      refine r_icmp okX5_readSum rfl (fun (h14_1 : (800 : Int32) ≤ ((nI k) + 1)) => ?_) (fun (h14_1 : ¬ (800 : Int32) ≤ ((nI k) + 1)) => ?_)
                      · refine r_run okX5_readSum 2 (cs := []) (σ' := (140, [some (.ref 95), some (.int 0), some (.int 45), some (.int ((nI k) + 1)), some (.int 47), some (.int 0)], [.int 18, .int 45], (SS b false), Xu, J, 0, 0)) rfl trivial ?_
                        refine r_icmp okX5_readSum rfl (fun (h140 : (45 : Int32) = (18 : Int32)) => ?_) (fun (h140 : ¬ (45 : Int32) = (18 : Int32)) => ?_)
                        · exact absurd h140 (by decide)
                        · refine r_run okX5_readSum 4 (cs := []) (σ' := (149, [some (.ref 95), some (.int 0), some (.int 45), some (.int ((nI k) + 1)), some (.int 47), some (.int 0)], [.int 0, .int 45, .ref 87], (SS b false), Xu, J, 0, 0)) rfl trivial ?_
                          refine r_callV okX5_readSum okX6_add [.int 45, .int 0] [] 87 rfl rfl rfl kkX6_add rfl rfl (by decide) rfl rfl rfl (by decide) ⟨Nat.le_refl _, Nat.le_refl _⟩ (Nat.le_of_ble_eq_true rfl) (a_addF87 γ gF 45 0) (fun v1 S1 I1 J1 hp => ?_)
                          obtain ⟨⟨zXf1, rfl⟩, rfl, ⟨fXf1, oXf1⟩, rfl⟩ := hp
                          obtain ⟨Xf1, eXf1⟩ : ∃ z, z = I1 := ⟨_, rfl⟩
                          subst eXf1
                          show Rj _ _ _ _ _ _ (152, [some (.ref 95), some (.int 0), some (.int 45), some (.int ((nI k) + 1)), some (.int 47), some (.int 0)], [.int zXf1], (SS b false), Xf1, J, 0, 0)
                          refine r_run okX5_readSum 2 (cs := []) (σ' := (154, [some (.ref 95), some (.int 0), some (.int 45), some (.int ((nI k) + 1)), some (.int 47), some (.int 0)], [.int 0], (SS b false), Xf1, J, 0, 0)) rfl trivial ?_
                          refine r_iret okX5_readSum rfl rfl (by decide +kernel) (Nat.le_refl _) (Nat.le_refl _) ?_
                          exact ⟨rfl, rfl, .inl e, hd _ ⟨1, hs⟩, (fr_t hfu (fA_X fXf1)), rfl, oXf1, (FlO_k (by decide) fXf1 gE)⟩
                      · refine r_run okX5_readSum 1 (cs := []) (σ' := (18, [some (.ref 95), some (.int 0), some (.int 45), some (.int ((nI k) + 1)), some (.int 47), some (.int 0)], [.int 0], (SS b false), Xu, J, 0, 0)) rfl trivial ?_
                        refine r_ifc okX5_readSum rfl (fun (h18_1 : (0 : Int32) = (0 : Int32)) => ?_) (fun (h18_1 : ¬ (0 : Int32) = (0 : Int32)) => ?_)
                        · refine r_run okX5_readSum 2 (cs := []) (σ' := (140, [some (.ref 95), some (.int 0), some (.int 45), some (.int ((nI k) + 1)), some (.int 47), some (.int 0)], [.int 18, .int 45], (SS b false), Xu, J, 0, 0)) rfl trivial ?_
                          refine r_icmp okX5_readSum rfl (fun (h140_1 : (45 : Int32) = (18 : Int32)) => ?_) (fun (h140_1 : ¬ (45 : Int32) = (18 : Int32)) => ?_)
                          · exact absurd h140_1 (by decide)
                          · refine r_run okX5_readSum 4 (cs := []) (σ' := (149, [some (.ref 95), some (.int 0), some (.int 45), some (.int ((nI k) + 1)), some (.int 47), some (.int 0)], [.int 0, .int 45, .ref 87], (SS b false), Xu, J, 0, 0)) rfl trivial ?_
                            refine r_callV okX5_readSum okX6_add [.int 45, .int 0] [] 87 rfl rfl rfl kkX6_add rfl rfl (by decide) rfl rfl rfl (by decide) ⟨Nat.le_refl _, Nat.le_refl _⟩ (Nat.le_of_ble_eq_true rfl) (a_addF87 γ gF 45 0) (fun v1 S1 I1 J1 hp => ?_)
                            obtain ⟨⟨zXf1, rfl⟩, rfl, ⟨fXf1, oXf1⟩, rfl⟩ := hp
                            obtain ⟨Xf1, eXf1⟩ : ∃ z, z = I1 := ⟨_, rfl⟩
                            subst eXf1
                            show Rj _ _ _ _ _ _ (152, [some (.ref 95), some (.int 0), some (.int 45), some (.int ((nI k) + 1)), some (.int 47), some (.int 0)], [.int zXf1], (SS b false), Xf1, J, 0, 0)
                            refine r_run okX5_readSum 2 (cs := []) (σ' := (154, [some (.ref 95), some (.int 0), some (.int 45), some (.int ((nI k) + 1)), some (.int 47), some (.int 0)], [.int 0], (SS b false), Xf1, J, 0, 0)) rfl trivial ?_
                            refine r_iret okX5_readSum rfl rfl (by decide +kernel) (Nat.le_refl _) (Nat.le_refl _) ?_
                            exact ⟨rfl, rfl, .inl e, hd _ ⟨1, hs⟩, (fr_t hfu (fA_X fXf1)), rfl, oXf1, (FlO_k (by decide) fXf1 gE)⟩
                        · exact absurd h18_1 (by decide)
                    · have h117 : (47 : Int32) = (42 : Int32) := Classical.not_not.mp h1170
                      exact absurd h117 (by decide)
                  · exact absurd h104 (by decide)
                | inr q =>
                  rw [hu] at hr
                  obtain ⟨rfl, gP, gO⟩ := hr
                  have hq1 := dR_l1 hu
                  have hq2 := gP.1
                  show Rj _ _ _ _ _ _ (94, [some (.ref 95), some (.int 1), some (.int 45), some (.int (nI k)), some (.int 47), some (.int 0)], [.int 1], (SS b false), Xu, J, 0, 0)
                  refine r_run okX5_readSum 3 (cs := []) (σ' := (104, [some (.ref 95), some (.int 1), some (.int 45), some (.int (nI k)), some (.int 47), some (.int 0)], [.int 0], (SS b false), Xu, J, 0, 0)) rfl trivial ?_
                  refine r_ifc okX5_readSum rfl (fun (h104_1 : (0 : Int32) = (0 : Int32)) => ?_) (fun (h104_1 : ¬ (0 : Int32) = (0 : Int32)) => ?_)
                  · refine r_run okX5_readSum 2 (cs := []) (σ' := (117, [some (.ref 95), some (.int 1), some (.int 45), some (.int (nI k)), some (.int 47), some (.int 0)], [.int 42, .int 47], (SS b false), Xu, J, 0, 0)) rfl trivial ?_
                    refine r_icmp okX5_readSum rfl (fun (h117_1 : ¬ (47 : Int32) = (42 : Int32)) => ?_) (fun h117_10 => ?_)
                    · refine r_run okX5_readSum 2 (cs := []) (σ' := (10, [some (.ref 95), some (.int 1), some (.int 45), some (.int ((nI k) + 1)), some (.int 47), some (.int 0)], [], (SS b false), Xu, J, 0, 0)) rfl trivial ?_
                      rw [← nI_succ]
                      refine r_weak (L' := [some (.ref 95), some (.int 1), some (.int 45), some (.int (nI (k + 1))), none, none]) ⟨rfl, rfl, rfl, rfl, trivial⟩ ?_
                      refine K q _ hu (Tkn_k (A := 87) (by decide) hfr hTa) gP ?_ (fr_t hfa hfr)
                      rw [show l ++ (acc ++ q.1) = l ++ acc ++ q.1 by simp only [List.append_assoc]]
                      exact gO
                    · have h117_1 : (47 : Int32) = (42 : Int32) := Classical.not_not.mp h117_10
                      exact absurd h117_1 (by decide)
                  · exact absurd h104_1 (by decide)
            · exact absurd h60 (by decide)
          · have h48 : (47 : Int32) = (45 : Int32) := Classical.not_not.mp h480
            exact absurd h48 (by decide)
theorem lp_sm87 (γ : GE) {b : Bool} {J : AJ} {T : Nat → Int32} {n N i0 : Nat} {l : Cd} {X0 : AI} : ∀ (j i k : Nat) (W : Option Int32) (acc : Cd) (X : AI), (W = none ∨ W = some 2 ∨ W = some 3) → N ≤ i + j → Tkn T n N X → PsO T n N X i → OuO X 87 (l ++ acc) → (l ++ acc).length + (wC W).length ≤ i → k ≤ i → fr (qX 87) X0 X → (∀ res, (∃ f, SmT T n f W i acc res) → Sm T n i0 res) → Rj γ mX5_readSum 2 0 0 (fun r S' I' J' => (SS b false) = S' ∧ J = J' ∧ ∃ res, Sm T n i0 res ∧ RsO T n N 87 X0 l res r I') (10, [some (.ref 95), some (.int 1), some (.int (wtk W)), some (.int (nI k)), none, none], [], (SS b false), X, J, 0, 0) := by
  intro j
  induction j with
  | zero =>
    intro i k W acc X hW hj hT hP hO hl hk hf hd
    have e : kK T n i = 17 := by rw [show i = N by have := hP.1; omega]; exact hT.2.1
    rcases hW with rfl | rfl | rfl
    · exact sm_end0_87 γ (by rw [e]; decide) (by rw [e]; decide) (by rw [e]; decide) (by rw [e]; decide) hT hP hO hl hk hf hd
    · exact sm_end1_87 γ (by rw [e]; decide) (by rw [e]; decide) (by rw [e]; decide) (by rw [e]; decide) hT hP hO hl hk hf hd
    · exact sm_end2_87 γ (by rw [e]; decide) (by rw [e]; decide) (by rw [e]; decide) (by rw [e]; decide) hT hP hO hl hk hf hd
  | succ j ih =>
    intro i k W acc X hW hj hT hP hO hl hk hf hd
    by_cases h43 : kK T n i = 43
    · rcases hW with rfl | rfl | rfl
      · refine sm_43_0_87 γ h43 hT hP hO hl hk hf hd (fun q Y hu h1 h2 h3 h4 => ?_)
        have hq := uR_l1 hu
        have hlw : (wC none).length = 0 := rfl
        have hlw2 : (wC (some 2)).length = 1 := rfl
        refine ih q.2 (k + 1) (some 2) _ Y (Or.inr (Or.inl rfl)) (by omega) h1 h2 h3 (by simp only [List.length_append, List.length_cons, List.length_nil] at *; omega) (by omega) h4 (fun res hr => hd res ?_)
        obtain ⟨f, hg⟩ := hr
        exact ⟨f + 1, by unfold SmT; rw [if_pos (Or.inl h43)]; simp only [hu]; rw [if_pos h43]; exact hg⟩
      · refine sm_43_1_87 γ h43 hT hP hO hl hk hf hd (fun q Y hu h1 h2 h3 h4 => ?_)
        have hq := uR_l1 hu
        have hlw : (wC (some 2)).length = 1 := rfl
        have hlw2 : (wC (some 2)).length = 1 := rfl
        refine ih q.2 (k + 1) (some 2) _ Y (Or.inr (Or.inl rfl)) (by omega) h1 h2 h3 (by simp only [List.length_append, List.length_cons, List.length_nil] at *; omega) (by omega) h4 (fun res hr => hd res ?_)
        obtain ⟨f, hg⟩ := hr
        exact ⟨f + 1, by unfold SmT; rw [if_pos (Or.inl h43)]; simp only [hu]; rw [if_pos h43]; exact hg⟩
      · refine sm_43_2_87 γ h43 hT hP hO hl hk hf hd (fun q Y hu h1 h2 h3 h4 => ?_)
        have hq := uR_l1 hu
        have hlw : (wC (some 3)).length = 1 := rfl
        have hlw2 : (wC (some 2)).length = 1 := rfl
        refine ih q.2 (k + 1) (some 2) _ Y (Or.inr (Or.inl rfl)) (by omega) h1 h2 h3 (by simp only [List.length_append, List.length_cons, List.length_nil] at *; omega) (by omega) h4 (fun res hr => hd res ?_)
        obtain ⟨f, hg⟩ := hr
        exact ⟨f + 1, by unfold SmT; rw [if_pos (Or.inl h43)]; simp only [hu]; rw [if_pos h43]; exact hg⟩
    by_cases h45 : kK T n i = 45
    · rcases hW with rfl | rfl | rfl
      · refine sm_45_0_87 γ h45 hT hP hO hl hk hf hd (fun q Y hu h1 h2 h3 h4 => ?_)
        have hq := uR_l1 hu
        have hlw : (wC none).length = 0 := rfl
        have hlw2 : (wC (some 3)).length = 1 := rfl
        refine ih q.2 (k + 1) (some 3) _ Y (Or.inr (Or.inr rfl)) (by omega) h1 h2 h3 (by simp only [List.length_append, List.length_cons, List.length_nil] at *; omega) (by omega) h4 (fun res hr => hd res ?_)
        obtain ⟨f, hg⟩ := hr
        exact ⟨f + 1, by unfold SmT; rw [if_pos (Or.inr h45)]; simp only [hu]; rw [if_neg h43]; exact hg⟩
      · refine sm_45_1_87 γ h45 hT hP hO hl hk hf hd (fun q Y hu h1 h2 h3 h4 => ?_)
        have hq := uR_l1 hu
        have hlw : (wC (some 2)).length = 1 := rfl
        have hlw2 : (wC (some 3)).length = 1 := rfl
        refine ih q.2 (k + 1) (some 3) _ Y (Or.inr (Or.inr rfl)) (by omega) h1 h2 h3 (by simp only [List.length_append, List.length_cons, List.length_nil] at *; omega) (by omega) h4 (fun res hr => hd res ?_)
        obtain ⟨f, hg⟩ := hr
        exact ⟨f + 1, by unfold SmT; rw [if_pos (Or.inr h45)]; simp only [hu]; rw [if_neg h43]; exact hg⟩
      · refine sm_45_2_87 γ h45 hT hP hO hl hk hf hd (fun q Y hu h1 h2 h3 h4 => ?_)
        have hq := uR_l1 hu
        have hlw : (wC (some 3)).length = 1 := rfl
        have hlw2 : (wC (some 3)).length = 1 := rfl
        refine ih q.2 (k + 1) (some 3) _ Y (Or.inr (Or.inr rfl)) (by omega) h1 h2 h3 (by simp only [List.length_append, List.length_cons, List.length_nil] at *; omega) (by omega) h4 (fun res hr => hd res ?_)
        obtain ⟨f, hg⟩ := hr
        exact ⟨f + 1, by unfold SmT; rw [if_pos (Or.inr h45)]; simp only [hu]; rw [if_neg h43]; exact hg⟩
    by_cases h42 : kK T n i = 42
    · rcases hW with rfl | rfl | rfl
      · refine sm_42_0_87 γ h42 hT hP hO hl hk hf hd (fun q Y hu h1 h2 h3 h4 => ?_)
        have hq := uR_l1 hu
        have hlw : (wC none).length = 0 := rfl
        have hlw2 : (wC none).length = 0 := rfl
        refine ih q.2 (k + 1) none _ Y (Or.inl rfl) (by omega) h1 h2 h3 (by simp only [List.length_append, List.length_cons, List.length_nil] at *; omega) (by omega) h4 (fun res hr => hd res ?_)
        obtain ⟨f, hg⟩ := hr
        exact ⟨f + 1, by unfold SmT; rw [if_neg (fun z => z.elim h43 h45), if_pos h42]; simp only [hu]; exact hg⟩
      · refine sm_42_1_87 γ h42 hT hP hO hl hk hf hd (fun q Y hu h1 h2 h3 h4 => ?_)
        have hq := uR_l1 hu
        have hlw : (wC (some 2)).length = 1 := rfl
        have hlw2 : (wC (some 2)).length = 1 := rfl
        refine ih q.2 (k + 1) (some 2) _ Y (Or.inr (Or.inl rfl)) (by omega) h1 h2 h3 (by simp only [List.length_append, List.length_cons, List.length_nil] at *; omega) (by omega) h4 (fun res hr => hd res ?_)
        obtain ⟨f, hg⟩ := hr
        exact ⟨f + 1, by unfold SmT; rw [if_neg (fun z => z.elim h43 h45), if_pos h42]; simp only [hu]; exact hg⟩
      · refine sm_42_2_87 γ h42 hT hP hO hl hk hf hd (fun q Y hu h1 h2 h3 h4 => ?_)
        have hq := uR_l1 hu
        have hlw : (wC (some 3)).length = 1 := rfl
        have hlw2 : (wC (some 3)).length = 1 := rfl
        refine ih q.2 (k + 1) (some 3) _ Y (Or.inr (Or.inr rfl)) (by omega) h1 h2 h3 (by simp only [List.length_append, List.length_cons, List.length_nil] at *; omega) (by omega) h4 (fun res hr => hd res ?_)
        obtain ⟨f, hg⟩ := hr
        exact ⟨f + 1, by unfold SmT; rw [if_neg (fun z => z.elim h43 h45), if_pos h42]; simp only [hu]; exact hg⟩
    by_cases h47 : kK T n i = 47
    · rcases hW with rfl | rfl | rfl
      · refine sm_47_0_87 γ h47 hT hP hO hl hk hf hd (fun q Y hu h1 h2 h3 h4 => ?_)
        have hq := dR_l1 hu
        have hlw : (wC none).length = 0 := rfl
        have hlw2 : (wC none).length = 0 := rfl
        refine ih q.2 (k + 1) none _ Y (Or.inl rfl) (by omega) h1 h2 h3 (by simp only [List.length_append, List.length_cons, List.length_nil] at *; omega) (by omega) h4 (fun res hr => hd res ?_)
        obtain ⟨f, hg⟩ := hr
        exact ⟨f + 1, by unfold SmT; rw [if_neg (fun z => z.elim h43 h45), if_neg h42, if_pos h47, if_pos hq.2.2.1, if_neg hq.2.2.2.1]; rw [hq.2.2.2.2] at hg; rw [show i + 2 = q.2 by omega]; exact hg⟩
      · refine sm_47_1_87 γ h47 hT hP hO hl hk hf hd (fun q Y hu h1 h2 h3 h4 => ?_)
        have hq := dR_l1 hu
        have hlw : (wC (some 2)).length = 1 := rfl
        have hlw2 : (wC (some 2)).length = 1 := rfl
        refine ih q.2 (k + 1) (some 2) _ Y (Or.inr (Or.inl rfl)) (by omega) h1 h2 h3 (by simp only [List.length_append, List.length_cons, List.length_nil] at *; omega) (by omega) h4 (fun res hr => hd res ?_)
        obtain ⟨f, hg⟩ := hr
        exact ⟨f + 1, by unfold SmT; rw [if_neg (fun z => z.elim h43 h45), if_neg h42, if_pos h47, if_pos hq.2.2.1, if_neg hq.2.2.2.1]; rw [hq.2.2.2.2] at hg; rw [show i + 2 = q.2 by omega]; exact hg⟩
      · refine sm_47_2_87 γ h47 hT hP hO hl hk hf hd (fun q Y hu h1 h2 h3 h4 => ?_)
        have hq := dR_l1 hu
        have hlw : (wC (some 3)).length = 1 := rfl
        have hlw2 : (wC (some 3)).length = 1 := rfl
        refine ih q.2 (k + 1) (some 3) _ Y (Or.inr (Or.inr rfl)) (by omega) h1 h2 h3 (by simp only [List.length_append, List.length_cons, List.length_nil] at *; omega) (by omega) h4 (fun res hr => hd res ?_)
        obtain ⟨f, hg⟩ := hr
        exact ⟨f + 1, by unfold SmT; rw [if_neg (fun z => z.elim h43 h45), if_neg h42, if_pos h47, if_pos hq.2.2.1, if_neg hq.2.2.2.1]; rw [hq.2.2.2.2] at hg; rw [show i + 2 = q.2 by omega]; exact hg⟩
    rcases hW with rfl | rfl | rfl
    · exact sm_end0_87 γ h43 h45 h42 h47 hT hP hO hl hk hf hd
    · exact sm_end1_87 γ h43 h45 h42 h47 hT hP hO hl hk hf hd
    · exact sm_end2_87 γ h43 h45 h42 h47 hT hP hO hl hk hf hd
theorem b_sum87 (γ : GE) {b : Bool} {J : AJ} {T : Nat → Int32} {n N i0 : Nat} {l : Cd} {X0 : AI} (hT : Tkn T n N X0) (hP : PsO T n N X0 i0) (hO : OuO X0 87 l) (hl : l.length ≤ i0) : Ct γ mX5_readSum 2 0 0 [.ref 95] (SS b false) X0 J (fun r S' I' J' => (SS b false) = S' ∧ J = J' ∧ ∃ res, Sm T n i0 res ∧ RsO T n N 87 X0 l res r I') := by
  refine ct_of okX5_readSum (L := [some (.ref 95), none, none, none, none, none]) (Nat.le_of_ble_eq_true rfl) rfl ?_
  refine r_run okX5_readSum 1 (cs := []) (σ' := (1, [some (.ref 95), none, none, none, none, none], [.ref 95], (SS b false), X0, J, 0, 0)) rfl trivial ?_
  refine r_callV okX5_readSum okX5_readUnit [] [] 95 rfl rfl rfl kkX5_readUnit rfl rfl (by decide) rfl rfl rfl (by decide) ⟨Nat.le_refl _, Nat.le_refl _⟩ (Nat.le_of_ble_eq_true rfl) (b_unit87 γ hT hP hO hl) (fun v1 S1 I1 J1 hp => ?_)
  obtain ⟨rfl, rfl, hfr, hr⟩ := hp
  obtain ⟨Xu, eXu⟩ : ∃ z, z = I1 := ⟨_, rfl⟩
  subst eXu
  cases hu : uR T n i0 with
  | inl e =>
    rw [hu] at hr
    obtain ⟨rfl, gF, gE⟩ := hr
    have hs : Sm T n i0 (.inl e) := by unfold Sm; rw [hu]
    show Rj _ _ _ _ _ _ (4, [some (.ref 95), none, none, none, none, none], [.int 0], (SS b false), Xu, J, 0, 0)
    refine r_run okX5_readSum 7 (cs := []) (σ' := (14, [some (.ref 95), some (.int 0), some (.int 18), some (.int 0), none, none], [.int 800, .int 0], (SS b false), Xu, J, 0, 0)) rfl trivial ?_
    refine r_icmp okX5_readSum rfl (fun (h14 : (800 : Int32) ≤ (0 : Int32)) => ?_) (fun (h14 : ¬ (800 : Int32) ≤ (0 : Int32)) => ?_)
    · exact absurd h14 (by decide)
    · refine r_run okX5_readSum 1 (cs := []) (σ' := (18, [some (.ref 95), some (.int 0), some (.int 18), some (.int 0), none, none], [.int 0], (SS b false), Xu, J, 0, 0)) rfl trivial ?_
      refine r_ifc okX5_readSum rfl (fun (h18 : (0 : Int32) = (0 : Int32)) => ?_) (fun (h18 : ¬ (0 : Int32) = (0 : Int32)) => ?_)
      · refine r_run okX5_readSum 2 (cs := []) (σ' := (140, [some (.ref 95), some (.int 0), some (.int 18), some (.int 0), none, none], [.int 18, .int 18], (SS b false), Xu, J, 0, 0)) rfl trivial ?_
        refine r_icmp okX5_readSum rfl (fun (h140 : (18 : Int32) = (18 : Int32)) => ?_) (fun (h140 : ¬ (18 : Int32) = (18 : Int32)) => ?_)
        · refine r_run okX5_readSum 1 (cs := []) (σ' := (154, [some (.ref 95), some (.int 0), some (.int 18), some (.int 0), none, none], [.int 0], (SS b false), Xu, J, 0, 0)) rfl trivial ?_
          refine r_iret okX5_readSum rfl rfl (by decide +kernel) (Nat.le_refl _) (Nat.le_refl _) ?_
          exact ⟨rfl, rfl, .inl e, hs, hfr, rfl, gF, gE⟩
        · exact absurd h140 (by decide)
      · exact absurd h18 (by decide)
  | inr q =>
    rw [hu] at hr
    obtain ⟨rfl, gP, gO⟩ := hr
    have hq := uR_l1 hu
    show Rj _ _ _ _ _ _ (4, [some (.ref 95), none, none, none, none, none], [.int 1], (SS b false), Xu, J, 0, 0)
    refine r_run okX5_readSum 5 (cs := []) (σ' := (10, [some (.ref 95), some (.int 1), some (.int 18), some (.int 0), none, none], [], (SS b false), Xu, J, 0, 0)) rfl trivial ?_
    have z := lp_sm87 γ (b := b) (J := J) (T := T) (n := n) (N := N) (i0 := i0) (l := l) (X0 := X0) N q.2 0 none q.1 Xu (Or.inl rfl) (by omega) (Tkn_k (A := 87) (by decide) hfr hT) gP gO (by simp only [List.length_append, show (wC none).length = 0 from rfl] at *; omega) (by omega) hfr (fun res hr => by unfold Sm; rw [hu]; exact hr)
    rw [nI_0] at z
    exact z
