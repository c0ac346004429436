/-! ===== the office reads: conditions ===== -/
def CnC79 (γ : GE) (b : Bool) (T : Nat → Int32) (n N r : Nat) : Prop := ∀ (X : AI) (J : AJ) (i q : Nat) (l : Cd), q + r = 8 → Tkn T n N X → PsO T n N X i → OuO X 79 l → l.length ≤ i → Ct γ mX5_readCondition (3 + 2 * r) 0 0 [.ref 95, .int (nI q)] (SS b true) X J (fun rt S' I' J' => (SS b true) = S' ∧ J = J' ∧ ∃ res, Cn T n r i res ∧ RsO T n N 79 X l res rt I')
def AnC79 (γ : GE) (b : Bool) (T : Nat → Int32) (n N r : Nat) : Prop := ∀ (X : AI) (J : AJ) (i q : Nat) (l : Cd), q + r = 8 → Tkn T n N X → PsO T n N X i → OuO X 79 l → l.length ≤ i → Ct γ mX5_readAny (4 + 2 * r) 0 0 [.ref 95, .int (nI q)] (SS b true) X J (fun rt S' I' J' => (SS b true) = S' ∧ J = J' ∧ ∃ res, An T n (Cn T n r) i res ∧ RsO T n N 79 X l res rt I')
theorem an_end0_79 (γ : GE) {b : Bool} {J : AJ} {T : Nat → Int32} {n N i0 r q : Nat} {l : Cd} {X0 : AI} {X : AI} {i k : Nat} {acc : Cd} (k4 : ¬ kK T n i = 4) (k5 : ¬ kK T n i = 5) (hT : Tkn T n N X) (hP : PsO T n N X i) (hO : OuO X 79 (l ++ acc)) (hl : (l ++ acc).length + 0 ≤ i) (hk : k ≤ i) (hf : fr (qX 79) X0 X) (hd : ∀ res, (∃ f, AnT T n (Cn T n r) f 0 i acc res) → An T n (Cn T n r) i0 res) : Rj γ mX5_readAny (4 + 2 * r) 0 0 (fun rt S' I' J' => (SS b true) = S' ∧ J = J' ∧ ∃ res, An T n (Cn T n r) i0 res ∧ RsO T n N 79 X0 l res rt I') (11, [some (.ref 95), some (.int (nI q)), some (.int 1), some (.int 0), some (.int (nI k)), none], [], (SS b true), X, J, 0, 0) := by
  have hN := hT.1
  have hiN := hP.1
  have e7 := hP.2.2.1
  refine r_run okX5_readAny 2 (cs := []) (σ' := (16, [some (.ref 95), some (.int (nI q)), some (.int 1), some (.int 0), some (.int (nI k)), none], [.int 800, .int (nI k)], (SS b true), X, J, 0, 0)) rfl trivial ?_
  refine r_icmp okX5_readAny rfl (fun (h16 : (800 : Int32) ≤ (nI k)) => ?_) (fun (h16 : ¬ (800 : Int32) ≤ (nI k)) => ?_)
  · refine r_run okX5_readAny 1 (cs := []) (σ' := (110, [some (.ref 95), some (.int (nI q)), some (.int 1), some (.int 0), some (.int (nI k)), none], [.int 0], (SS b true), X, J, 0, 0)) rfl trivial ?_
    refine r_ifc okX5_readAny rfl (fun (h110 : (0 : Int32) = (0 : Int32)) => ?_) (fun (h110 : ¬ (0 : Int32) = (0 : Int32)) => ?_)
    · refine r_run okX5_readAny 1 (cs := []) (σ' := (124, [some (.ref 95), some (.int (nI q)), some (.int 1), some (.int 0), some (.int (nI k)), none], [.int 1], (SS b true), X, J, 0, 0)) rfl trivial ?_
      refine r_iret okX5_readAny rfl rfl (by decide +kernel) (Nat.le_refl _) (Nat.le_refl _) ?_
      have hs : AnT T n (Cn T n r) 1 0 i acc (.inr (acc ++ wO 0, i)) := by
        unfold AnT; rw [if_neg k5, if_neg k4]
      exact ⟨rfl, rfl, _, hd _ ⟨1, hs⟩, hf, rfl, hP, by show OuO X 79 (l ++ (acc ++ [])); rw [app_n]; exact hO⟩
    · exact absurd h110 (by decide)
  · refine r_run okX5_readAny 1 (cs := []) (σ' := (20, [some (.ref 95), some (.int (nI q)), some (.int 1), some (.int 0), some (.int (nI k)), none], [.int 1], (SS b true), X, J, 0, 0)) rfl trivial ?_
    refine r_ifc okX5_readAny rfl (fun (h20 : (1 : Int32) = (0 : Int32)) => ?_) (fun (h20 : ¬ (1 : Int32) = (0 : Int32)) => ?_)
    · exact absurd h20 (by decide)
    · refine r_run okX5_readAny 3 (cs := []) (σ' := (28, [some (.ref 95), some (.int (nI q)), some (.int 1), some (.int 0), some (.int (nI k)), none], [.int 4, .int (X 95 7)], (SS b true), X, J, 0, 0)) rfl trivial ?_
      simp only [e7]
      show Rj _ _ _ _ _ _ (28, [some (.ref 95), some (.int (nI q)), some (.int 1), some (.int 0), some (.int (nI k)), none], [.int 4, .int (kK T n i)], (SS b true), X, J, 0, 0)
      refine r_icmp okX5_readAny rfl (fun (h28 : (kK T n i) = (4 : Int32)) => ?_) (fun (h28 : ¬ (kK T n i) = (4 : Int32)) => ?_)
      · exact absurd h28 k4
      · refine r_run okX5_readAny 3 (cs := []) (σ' := (36, [some (.ref 95), some (.int (nI q)), some (.int 1), some (.int 0), some (.int (nI k)), none], [.int 5, .int (X 95 7)], (SS b true), X, J, 0, 0)) rfl trivial ?_
        simp only [e7]
        show Rj _ _ _ _ _ _ (36, [some (.ref 95), some (.int (nI q)), some (.int 1), some (.int 0), some (.int (nI k)), none], [.int 5, .int (kK T n i)], (SS b true), X, J, 0, 0)
        refine r_icmp okX5_readAny rfl (fun (h36 : ¬ (kK T n i) = (5 : Int32)) => ?_) (fun h360 => ?_)
        · refine r_run okX5_readAny 1 (cs := []) (σ' := (110, [some (.ref 95), some (.int (nI q)), some (.int 1), some (.int 0), some (.int (nI k)), none], [.int 0], (SS b true), X, J, 0, 0)) rfl trivial ?_
          refine r_ifc okX5_readAny rfl (fun (h110_1 : (0 : Int32) = (0 : Int32)) => ?_) (fun (h110_1 : ¬ (0 : Int32) = (0 : Int32)) => ?_)
          · refine r_run okX5_readAny 1 (cs := []) (σ' := (124, [some (.ref 95), some (.int (nI q)), some (.int 1), some (.int 0), some (.int (nI k)), none], [.int 1], (SS b true), X, J, 0, 0)) rfl trivial ?_
            refine r_iret okX5_readAny rfl rfl (by decide +kernel) (Nat.le_refl _) (Nat.le_refl _) ?_
            have hs : AnT T n (Cn T n r) 1 0 i acc (.inr (acc ++ wO 0, i)) := by
              unfold AnT; rw [if_neg k5, if_neg k4]
            exact ⟨rfl, rfl, _, hd _ ⟨1, hs⟩, hf, rfl, hP, by show OuO X 79 (l ++ (acc ++ [])); rw [app_n]; exact hO⟩
          · exact absurd h110_1 (by decide)
        · have h36 : (kK T n i) = (5 : Int32) := Classical.not_not.mp h360
          exact absurd h36 k5
theorem an_5_0_79 (γ : GE) {b : Bool} {J : AJ} {T : Nat → Int32} {n N i0 r q : Nat} {l : Cd} {X0 : AI} (hC : CnC79 γ b T n N r) (hq : q + r = 8) {X : AI} {i k : Nat} {acc : Cd} (h : kK T n i = 5) (hT : Tkn T n N X) (hP : PsO T n N X i) (hO : OuO X 79 (l ++ acc)) (hl : (l ++ acc).length + 0 ≤ i) (hk : k ≤ i) (hf : fr (qX 79) X0 X) (hd : ∀ res, (∃ f, AnT T n (Cn T n r) f 0 i acc res) → An T n (Cn T n r) i0 res) (K : ∀ (u : Cd × Nat) (Y : AI), Cn T n r (i + 1) (.inr u) → Tkn T n N Y → PsO T n N Y u.2 → OuO Y 79 (l ++ (acc ++ u.1 ++ [(10, 0)])) → fr (qX 79) X0 Y → Rj γ mX5_readAny (4 + 2 * r) 0 0 (fun rt S' I' J' => (SS b true) = S' ∧ J = J' ∧ ∃ res, An T n (Cn T n r) i0 res ∧ RsO T n N 79 X0 l res rt I') (11, [some (.ref 95), some (.int (nI q)), some (.int 1), some (.int 0), some (.int (nI (k + 1))), none], [], (SS b true), Y, J, 0, 0)) : Rj γ mX5_readAny (4 + 2 * r) 0 0 (fun rt S' I' J' => (SS b true) = S' ∧ J = J' ∧ ∃ res, An T n (Cn T n r) i0 res ∧ RsO T n N 79 X0 l res rt I') (11, [some (.ref 95), some (.int (nI q)), some (.int 1), some (.int 0), some (.int (nI k)), none], [], (SS b true), X, J, 0, 0) := by
  have hN := hT.1
  have hiN := hP.1
  have e7 : X 95 7 = 5 := hP.2.2.1.trans h
  have hi : i < N := kK_lt hT hiN (by rw [h]; decide)
  refine r_run okX5_readAny 2 (cs := []) (σ' := (16, [some (.ref 95), some (.int (nI q)), some (.int 1), some (.int 0), some (.int (nI k)), none], [.int 800, .int (nI k)], (SS b true), X, J, 0, 0)) rfl trivial ?_
  refine r_icmp okX5_readAny rfl (fun (h16 : (800 : Int32) ≤ (nI k)) => ?_) (fun (h16 : ¬ (800 : Int32) ≤ (nI k)) => ?_)
  · exact absurd h16 (nI_ge (b := 800) (by omega) (by decide))
  · refine r_run okX5_readAny 1 (cs := []) (σ' := (20, [some (.ref 95), some (.int (nI q)), some (.int 1), some (.int 0), some (.int (nI k)), none], [.int 1], (SS b true), X, J, 0, 0)) rfl trivial ?_
    refine r_ifc okX5_readAny rfl (fun (h20 : (1 : Int32) = (0 : Int32)) => ?_) (fun (h20 : ¬ (1 : Int32) = (0 : Int32)) => ?_)
    · exact absurd h20 (by decide)
    · refine r_run okX5_readAny 3 (cs := []) (σ' := (28, [some (.ref 95), some (.int (nI q)), some (.int 1), some (.int 0), some (.int (nI k)), none], [.int 4, .int (X 95 7)], (SS b true), X, J, 0, 0)) rfl trivial ?_
      simp only [e7]
      show Rj _ _ _ _ _ _ (28, [some (.ref 95), some (.int (nI q)), some (.int 1), some (.int 0), some (.int (nI k)), none], [.int 4, .int 5], (SS b true), X, J, 0, 0)
      refine r_icmp okX5_readAny rfl (fun (h28 : (5 : Int32) = (4 : Int32)) => ?_) (fun (h28 : ¬ (5 : Int32) = (4 : Int32)) => ?_)
      · exact absurd h28 (by decide)
      · refine r_run okX5_readAny 3 (cs := []) (σ' := (36, [some (.ref 95), some (.int (nI q)), some (.int 1), some (.int 0), some (.int (nI k)), none], [.int 5, .int (X 95 7)], (SS b true), X, J, 0, 0)) rfl trivial ?_
        simp only [e7]
        show Rj _ _ _ _ _ _ (36, [some (.ref 95), some (.int (nI q)), some (.int 1), some (.int 0), some (.int (nI k)), none], [.int 5, .int 5], (SS b true), X, J, 0, 0)
        refine r_icmp okX5_readAny rfl (fun (h36 : ¬ (5 : Int32) = (5 : Int32)) => ?_) (fun h360 => ?_)
        · exact absurd h36 (by decide)
        · have h36 : (5 : Int32) = (5 : Int32) := Classical.not_not.mp h360
          refine r_run okX5_readAny 3 (cs := []) (σ' := (44, [some (.ref 95), some (.int (nI q)), some (.int 1), some (.int 0), some (.int (nI k)), none], [.int 5, .int (X 95 7)], (SS b true), X, J, 0, 0)) rfl trivial ?_
          simp only [e7]
          show Rj _ _ _ _ _ _ (44, [some (.ref 95), some (.int (nI q)), some (.int 1), some (.int 0), some (.int (nI k)), none], [.int 5, .int 5], (SS b true), X, J, 0, 0)
          refine r_icmp okX5_readAny rfl (fun (h44 : ¬ (5 : Int32) = (5 : Int32)) => ?_) (fun h440 => ?_)
          · exact absurd h44 (by decide)
          · have h44 : (5 : Int32) = (5 : Int32) := Classical.not_not.mp h440
            refine r_run okX5_readAny 4 (cs := []) (σ' := (56, [some (.ref 95), some (.int (nI q)), some (.int 1), some (.int 0), some (.int (nI k)), some (.int 1)], [.int 1], (SS b true), X, J, 0, 0)) rfl trivial ?_
            refine r_ifc okX5_readAny rfl (fun (h56 : ¬ (1 : Int32) = (0 : Int32)) => ?_) (fun h560 => ?_)
            · refine r_run okX5_readAny 1 (cs := []) (σ' := (74, [some (.ref 95), some (.int (nI q)), some (.int 1), some (.int 0), some (.int (nI k)), some (.int 1)], [.ref 95], (SS b true), X, J, 0, 0)) rfl trivial ?_
              refine r_callV okX5_readAny okX5_advance [] [] 95 rfl rfl rfl kkX5_advance rfl rfl (by decide) rfl rfl rfl (by omega) ⟨Nat.le_refl _, Nat.le_refl _⟩ (Nat.le_of_ble_eq_true rfl) (b_adv79 γ hT hP hi) (fun v1 S1 I1 J1 hp => ?_)
              obtain ⟨rfl, rfl, ⟨fXa, pXa⟩, rfl⟩ := hp
              obtain ⟨Xa, eXa⟩ : ∃ z, z = I1 := ⟨_, rfl⟩
              subst eXa
              have hTa : Tkn T n N Xa := Tkn_k (A := 79) (by decide) (f9_X fXa) hT
              have hOa := OuO_9 (by decide) fXa hO
              have hfa : fr (qX 79) X0 Xa := fr_t hf (f9_X fXa)
              show Rj _ _ _ _ _ _ (77, [some (.ref 95), some (.int (nI q)), some (.int 1), some (.int 0), some (.int (nI k)), some (.int 1)], [], (SS b true), Xa, J, 0, 0)
              refine r_run okX5_readAny 2 (cs := []) (σ' := (79, [some (.ref 95), some (.int (nI q)), some (.int 1), some (.int 0), some (.int (nI k)), some (.int 1)], [.int (nI q), .ref 95], (SS b true), Xa, J, 0, 0)) rfl trivial ?_
              refine r_callV okX5_readAny okX5_readCondition [.int (nI q)] [] 95 rfl rfl rfl kkX5_readCondition rfl rfl (by decide) rfl rfl rfl (by omega) ⟨Nat.le_refl _, Nat.le_refl _⟩ (Nat.le_of_ble_eq_true rfl) (hC Xa J (i + 1) q _ hq hTa pXa hOa (by simp only [List.length_append, List.length_cons, List.length_nil] at *; omega)) (fun v1 S1 I1 J1 hp => ?_)
              obtain ⟨rfl, rfl, res, hc, hfr, hr⟩ := hp
              obtain ⟨Xu, eXu⟩ : ∃ z, z = I1 := ⟨_, rfl⟩
              subst eXu
              cases res with
              | inl e =>
                obtain ⟨rfl, gF, gE⟩ := hr
                have hfu : fr (qX 79) X0 Xu := fr_t hfa hfr
                have hs : AnT T n (Cn T n r) 1 0 i acc (.inl e) := by unfold AnT; rw [if_pos h]; exact ⟨_, hc, Or.inl ⟨e, rfl, rfl⟩⟩
                show Rj _ _ _ _ _ _ (82, [some (.ref 95), some (.int (nI q)), some (.int 1), some (.int 0), some (.int (nI k)), some (.int 1)], [.int 0], (SS b true), Xu, J, 0, 0)
                refine r_run okX5_readAny 2 (cs := []) (σ' := (85, [some (.ref 95), some (.int (nI q)), some (.int 0), some (.int 0), some (.int (nI k)), some (.int 1)], [.int 1], (SS b true), Xu, J, 0, 0)) rfl trivial ?_
                refine r_ifc okX5_readAny rfl (fun (h85 : (1 : Int32) = (0 : Int32)) => ?_) (fun (h85 : ¬ (1 : Int32) = (0 : Int32)) => ?_)
                · exact absurd h85 (by decide)
                · refine r_run okX5_readAny 4 (cs := []) (σ' := (94, [some (.ref 95), some (.int (nI q)), some (.int 0), some (.int 0), some (.int (nI k)), some (.int 1)], [.int 0, .int 5, .ref 79], (SS b true), Xu, J, 0, 0)) rfl trivial ?_
                  refine r_callV okX5_readAny okX6_add [.int 5, .int 0] [] 79 rfl rfl rfl kkX6_add rfl rfl (by decide) rfl rfl rfl (by omega) ⟨Nat.le_refl _, Nat.le_refl _⟩ (Nat.le_of_ble_eq_true rfl) (a_addF79 γ gF 5 0) (fun v1 S1 I1 J1 hp => ?_)
                  obtain ⟨⟨zXf1, rfl⟩, rfl, ⟨fXf1, oXf1⟩, rfl⟩ := hp
                  obtain ⟨Xf1, eXf1⟩ : ∃ z, z = I1 := ⟨_, rfl⟩
                  subst eXf1
                  show Rj _ _ _ _ _ _ (97, [some (.ref 95), some (.int (nI q)), some (.int 0), some (.int 0), some (.int (nI k)), some (.int 1)], [.int zXf1], (SS b true), Xf1, J, 0, 0)
                  refine r_run okX5_readAny 6 (cs := []) (σ' := (16, [some (.ref 95), some (.int (nI q)), some (.int 0), some (.int 0), some (.int ((nI k) + 1)), some (.int 1)], [.int 800, .int ((nI k) + 1)], (SS b true), Xf1, J, 0, 0)) rfl trivial ?_
                  refine r_icmp okX5_readAny rfl (fun (h16_1 : (800 : Int32) ≤ ((nI k) + 1)) => ?_) (fun (h16_1 : ¬ (800 : Int32) ≤ ((nI k) + 1)) => ?_)
                  · refine r_run okX5_readAny 1 (cs := []) (σ' := (110, [some (.ref 95), some (.int (nI q)), some (.int 0), some (.int 0), some (.int ((nI k) + 1)), some (.int 1)], [.int 0], (SS b true), Xf1, J, 0, 0)) rfl trivial ?_
                    refine r_ifc okX5_readAny rfl (fun (h110 : (0 : Int32) = (0 : Int32)) => ?_) (fun (h110 : ¬ (0 : Int32) = (0 : Int32)) => ?_)
                    · refine r_run okX5_readAny 1 (cs := []) (σ' := (124, [some (.ref 95), some (.int (nI q)), some (.int 0), some (.int 0), some (.int ((nI k) + 1)), some (.int 1)], [.int 0], (SS b true), Xf1, J, 0, 0)) rfl trivial ?_
                      refine r_iret okX5_readAny rfl rfl (by decide +kernel) (Nat.le_refl _) (Nat.le_refl _) ?_
                      exact ⟨rfl, rfl, .inl e, hd _ ⟨1, hs⟩, (fr_t hfu (fA_X fXf1)), rfl, oXf1, (FlO_k (A := 79) (by decide) fXf1 gE)⟩
                    · exact absurd h110 (by decide)
                  · refine r_run okX5_readAny 1 (cs := []) (σ' := (20, [some (.ref 95), some (.int (nI q)), some (.int 0), some (.int 0), some (.int ((nI k) + 1)), some (.int 1)], [.int 0], (SS b true), Xf1, J, 0, 0)) rfl trivial ?_
                    refine r_ifc okX5_readAny rfl (fun (h20_1 : (0 : Int32) = (0 : Int32)) => ?_) (fun (h20_1 : ¬ (0 : Int32) = (0 : Int32)) => ?_)
                    · refine r_run okX5_readAny 1 (cs := []) (σ' := (110, [some (.ref 95), some (.int (nI q)), some (.int 0), some (.int 0), some (.int ((nI k) + 1)), some (.int 1)], [.int 0], (SS b true), Xf1, J, 0, 0)) rfl trivial ?_
                      refine r_ifc okX5_readAny rfl (fun (h110_1 : (0 : Int32) = (0 : Int32)) => ?_) (fun (h110_1 : ¬ (0 : Int32) = (0 : Int32)) => ?_)
                      · refine r_run okX5_readAny 1 (cs := []) (σ' := (124, [some (.ref 95), some (.int (nI q)), some (.int 0), some (.int 0), some (.int ((nI k) + 1)), some (.int 1)], [.int 0], (SS b true), Xf1, J, 0, 0)) rfl trivial ?_
                        refine r_iret okX5_readAny rfl rfl (by decide +kernel) (Nat.le_refl _) (Nat.le_refl _) ?_
                        exact ⟨rfl, rfl, .inl e, hd _ ⟨1, hs⟩, (fr_t hfu (fA_X fXf1)), rfl, oXf1, (FlO_k (A := 79) (by decide) fXf1 gE)⟩
                      · exact absurd h110_1 (by decide)
                    · exact absurd h20_1 (by decide)
              | inr u =>
                obtain ⟨rfl, gP, gO⟩ := hr
                have hq1 := Cn_len hc
                have hq3 := len_flt u.1
                have hq2 := gP.1
                show Rj _ _ _ _ _ _ (82, [some (.ref 95), some (.int (nI q)), some (.int 1), some (.int 0), some (.int (nI k)), some (.int 1)], [.int 1], (SS b true), Xu, J, 0, 0)
                refine r_run okX5_readAny 2 (cs := []) (σ' := (85, [some (.ref 95), some (.int (nI q)), some (.int 1), some (.int 0), some (.int (nI k)), some (.int 1)], [.int 1], (SS b true), Xu, J, 0, 0)) rfl trivial ?_
                refine r_ifc okX5_readAny rfl (fun (h85_1 : (1 : Int32) = (0 : Int32)) => ?_) (fun (h85_1 : ¬ (1 : Int32) = (0 : Int32)) => ?_)
                · exact absurd h85_1 (by decide)
                · refine r_run okX5_readAny 4 (cs := []) (σ' := (94, [some (.ref 95), some (.int (nI q)), some (.int 1), some (.int 0), some (.int (nI k)), some (.int 1)], [.int 0, .int 5, .ref 79], (SS b true), Xu, J, 0, 0)) rfl trivial ?_
                  refine r_callV okX5_readAny okX6_add [.int 5, .int 0] [] 79 rfl rfl rfl kkX6_add rfl rfl (by decide) rfl rfl rfl (by omega) ⟨Nat.le_refl _, Nat.le_refl _⟩ (Nat.le_of_ble_eq_true rfl) (a_add79 γ gO (by simp only [List.length_append, List.length_cons, List.length_nil] at *; omega) (p := (10, 0)) rfl) (fun v1 S1 I1 J1 hp => ?_)
                  obtain ⟨rfl, rfl, ⟨fXg, oXg⟩, rfl⟩ := hp
                  obtain ⟨Xg, eXg⟩ : ∃ z, z = I1 := ⟨_, rfl⟩
                  subst eXg
                  show Rj _ _ _ _ _ _ (97, [some (.ref 95), some (.int (nI q)), some (.int 1), some (.int 0), some (.int (nI k)), some (.int 1)], [.int 1], (SS b true), Xg, J, 0, 0)
                  refine r_run okX5_readAny 4 (cs := []) (σ' := (11, [some (.ref 95), some (.int (nI q)), some (.int 1), some (.int 0), some (.int ((nI k) + 1)), some (.int 1)], [], (SS b true), Xg, J, 0, 0)) rfl trivial ?_
                  rw [← nI_succ]
                  refine r_weak (L' := [some (.ref 95), some (.int (nI q)), some (.int 1), some (.int 0), some (.int (nI (k + 1))), none]) ⟨rfl, rfl, rfl, rfl, rfl, trivial⟩ ?_
                  refine K u _ hc (Tkn_k (A := 79) (by decide) (fA_X fXg) (Tkn_k (A := 79) (by decide) hfr hTa)) (PsO_k (A := 79) (by decide) fXg gP) ?_ (fr_t (fr_t hfa hfr) (fA_X fXg))
                  rw [show l ++ (acc ++ u.1 ++ [(10, 0)]) = l ++ acc ++ u.1 ++ [(10, 0)] by simp only [List.append_assoc]]
                  exact oXg
            · have h56 : (1 : Int32) = (0 : Int32) := Classical.not_not.mp h560
              exact absurd h56 (by decide)
theorem an_4_0_79 (γ : GE) {b : Bool} {J : AJ} {T : Nat → Int32} {n N i0 r q : Nat} {l : Cd} {X0 : AI} (hC : CnC79 γ b T n N r) (hq : q + r = 8) {X : AI} {i k : Nat} {acc : Cd} (h : kK T n i = 4) (hT : Tkn T n N X) (hP : PsO T n N X i) (hO : OuO X 79 (l ++ acc)) (hl : (l ++ acc).length + 0 ≤ i) (hk : k ≤ i) (hf : fr (qX 79) X0 X) (hd : ∀ res, (∃ f, AnT T n (Cn T n r) f 0 i acc res) → An T n (Cn T n r) i0 res) (K : ∀ (u : Cd × Nat) (Y : AI), Cn T n r (i + 1) (.inr u) → Tkn T n N Y → PsO T n N Y u.2 → OuO Y 79 (l ++ (acc ++ wO 0 ++ u.1)) → fr (qX 79) X0 Y → Rj γ mX5_readAny (4 + 2 * r) 0 0 (fun rt S' I' J' => (SS b true) = S' ∧ J = J' ∧ ∃ res, An T n (Cn T n r) i0 res ∧ RsO T n N 79 X0 l res rt I') (11, [some (.ref 95), some (.int (nI q)), some (.int 1), some (.int 1), some (.int (nI (k + 1))), none], [], (SS b true), Y, J, 0, 0)) : Rj γ mX5_readAny (4 + 2 * r) 0 0 (fun rt S' I' J' => (SS b true) = S' ∧ J = J' ∧ ∃ res, An T n (Cn T n r) i0 res ∧ RsO T n N 79 X0 l res rt I') (11, [some (.ref 95), some (.int (nI q)), some (.int 1), some (.int 0), some (.int (nI k)), none], [], (SS b true), X, J, 0, 0) := by
  have hN := hT.1
  have hiN := hP.1
  have e7 : X 95 7 = 4 := hP.2.2.1.trans h
  have hi : i < N := kK_lt hT hiN (by rw [h]; decide)
  refine r_run okX5_readAny 2 (cs := []) (σ' := (16, [some (.ref 95), some (.int (nI q)), some (.int 1), some (.int 0), some (.int (nI k)), none], [.int 800, .int (nI k)], (SS b true), X, J, 0, 0)) rfl trivial ?_
  refine r_icmp okX5_readAny rfl (fun (h16 : (800 : Int32) ≤ (nI k)) => ?_) (fun (h16 : ¬ (800 : Int32) ≤ (nI k)) => ?_)
  · exact absurd h16 (nI_ge (b := 800) (by omega) (by decide))
  · refine r_run okX5_readAny 1 (cs := []) (σ' := (20, [some (.ref 95), some (.int (nI q)), some (.int 1), some (.int 0), some (.int (nI k)), none], [.int 1], (SS b true), X, J, 0, 0)) rfl trivial ?_
    refine r_ifc okX5_readAny rfl (fun (h20 : (1 : Int32) = (0 : Int32)) => ?_) (fun (h20 : ¬ (1 : Int32) = (0 : Int32)) => ?_)
    · exact absurd h20 (by decide)
    · refine r_run okX5_readAny 3 (cs := []) (σ' := (28, [some (.ref 95), some (.int (nI q)), some (.int 1), some (.int 0), some (.int (nI k)), none], [.int 4, .int (X 95 7)], (SS b true), X, J, 0, 0)) rfl trivial ?_
      simp only [e7]
      show Rj _ _ _ _ _ _ (28, [some (.ref 95), some (.int (nI q)), some (.int 1), some (.int 0), some (.int (nI k)), none], [.int 4, .int 4], (SS b true), X, J, 0, 0)
      refine r_icmp okX5_readAny rfl (fun (h28 : (4 : Int32) = (4 : Int32)) => ?_) (fun (h28 : ¬ (4 : Int32) = (4 : Int32)) => ?_)
      · refine r_run okX5_readAny 3 (cs := []) (σ' := (44, [some (.ref 95), some (.int (nI q)), some (.int 1), some (.int 0), some (.int (nI k)), none], [.int 5, .int (X 95 7)], (SS b true), X, J, 0, 0)) rfl trivial ?_
        simp only [e7]
        show Rj _ _ _ _ _ _ (44, [some (.ref 95), some (.int (nI q)), some (.int 1), some (.int 0), some (.int (nI k)), none], [.int 5, .int 4], (SS b true), X, J, 0, 0)
        refine r_icmp okX5_readAny rfl (fun (h44 : ¬ (4 : Int32) = (5 : Int32)) => ?_) (fun h440 => ?_)
        · refine r_run okX5_readAny 3 (cs := []) (σ' := (56, [some (.ref 95), some (.int (nI q)), some (.int 1), some (.int 0), some (.int (nI k)), some (.int 0)], [.int 0], (SS b true), X, J, 0, 0)) rfl trivial ?_
          refine r_ifc okX5_readAny rfl (fun (h56 : ¬ (0 : Int32) = (0 : Int32)) => ?_) (fun h560 => ?_)
          · exact absurd h56 (by decide)
          · have h56 : (0 : Int32) = (0 : Int32) := Classical.not_not.mp h560
            refine r_run okX5_readAny 1 (cs := []) (σ' := (60, [some (.ref 95), some (.int (nI q)), some (.int 1), some (.int 0), some (.int (nI k)), some (.int 0)], [.int 0], (SS b true), X, J, 0, 0)) rfl trivial ?_
            refine r_ifc okX5_readAny rfl (fun (h60 : (0 : Int32) = (0 : Int32)) => ?_) (fun (h60 : ¬ (0 : Int32) = (0 : Int32)) => ?_)
            · refine r_run okX5_readAny 1 (cs := []) (σ' := (74, [some (.ref 95), some (.int (nI q)), some (.int 1), some (.int 0), some (.int (nI k)), some (.int 0)], [.ref 95], (SS b true), X, J, 0, 0)) rfl trivial ?_
              refine r_callV okX5_readAny okX5_advance [] [] 95 rfl rfl rfl kkX5_advance rfl rfl (by decide) rfl rfl rfl (by omega) ⟨Nat.le_refl _, Nat.le_refl _⟩ (Nat.le_of_ble_eq_true rfl) (b_adv79 γ hT hP hi) (fun v1 S1 I1 J1 hp => ?_)
              obtain ⟨rfl, rfl, ⟨fXa, pXa⟩, rfl⟩ := hp
              obtain ⟨Xa, eXa⟩ : ∃ z, z = I1 := ⟨_, rfl⟩
              subst eXa
              have hTa : Tkn T n N Xa := Tkn_k (A := 79) (by decide) (f9_X fXa) hT
              have hOa := OuO_9 (by decide) fXa hO
              have hfa : fr (qX 79) X0 Xa := fr_t hf (f9_X fXa)
              show Rj _ _ _ _ _ _ (77, [some (.ref 95), some (.int (nI q)), some (.int 1), some (.int 0), some (.int (nI k)), some (.int 0)], [], (SS b true), Xa, J, 0, 0)
              refine r_run okX5_readAny 2 (cs := []) (σ' := (79, [some (.ref 95), some (.int (nI q)), some (.int 1), some (.int 0), some (.int (nI k)), some (.int 0)], [.int (nI q), .ref 95], (SS b true), Xa, J, 0, 0)) rfl trivial ?_
              refine r_callV okX5_readAny okX5_readCondition [.int (nI q)] [] 95 rfl rfl rfl kkX5_readCondition rfl rfl (by decide) rfl rfl rfl (by omega) ⟨Nat.le_refl _, Nat.le_refl _⟩ (Nat.le_of_ble_eq_true rfl) (hC Xa J (i + 1) q _ hq hTa pXa hOa (by simp only [List.length_append, List.length_cons, List.length_nil] at *; omega)) (fun v1 S1 I1 J1 hp => ?_)
              obtain ⟨rfl, rfl, res, hc, hfr, hr⟩ := hp
              obtain ⟨Xu, eXu⟩ : ∃ z, z = I1 := ⟨_, rfl⟩
              subst eXu
              cases res with
              | inl e =>
                obtain ⟨rfl, gF, gE⟩ := hr
                have hfu : fr (qX 79) X0 Xu := fr_t hfa hfr
                have hs : AnT T n (Cn T n r) 1 0 i acc (.inl e) := by unfold AnT; rw [if_neg (by rw [h]; decide), if_pos h]; exact ⟨_, hc, Or.inl ⟨e, rfl, rfl⟩⟩
                show Rj _ _ _ _ _ _ (82, [some (.ref 95), some (.int (nI q)), some (.int 1), some (.int 0), some (.int (nI k)), some (.int 0)], [.int 0], (SS b true), Xu, J, 0, 0)
                refine r_run okX5_readAny 2 (cs := []) (σ' := (85, [some (.ref 95), some (.int (nI q)), some (.int 0), some (.int 0), some (.int (nI k)), some (.int 0)], [.int 0], (SS b true), Xu, J, 0, 0)) rfl trivial ?_
                refine r_ifc okX5_readAny rfl (fun (h85 : (0 : Int32) = (0 : Int32)) => ?_) (fun (h85 : ¬ (0 : Int32) = (0 : Int32)) => ?_)
                · refine r_run okX5_readAny 6 (cs := []) (σ' := (16, [some (.ref 95), some (.int (nI q)), some (.int 0), some (.int 1), some (.int ((nI k) + 1)), some (.int 0)], [.int 800, .int ((nI k) + 1)], (SS b true), Xu, J, 0, 0)) rfl trivial ?_
                  refine r_icmp okX5_readAny rfl (fun (h16_1 : (800 : Int32) ≤ ((nI k) + 1)) => ?_) (fun (h16_1 : ¬ (800 : Int32) ≤ ((nI k) + 1)) => ?_)
                  · refine r_run okX5_readAny 1 (cs := []) (σ' := (110, [some (.ref 95), some (.int (nI q)), some (.int 0), some (.int 1), some (.int ((nI k) + 1)), some (.int 0)], [.int 1], (SS b true), Xu, J, 0, 0)) rfl trivial ?_
                    refine r_ifc okX5_readAny rfl (fun (h110 : (1 : Int32) = (0 : Int32)) => ?_) (fun (h110 : ¬ (1 : Int32) = (0 : Int32)) => ?_)
                    · exact absurd h110 (by decide)
                    · refine r_run okX5_readAny 4 (cs := []) (σ' := (119, [some (.ref 95), some (.int (nI q)), some (.int 0), some (.int 1), some (.int ((nI k) + 1)), some (.int 0)], [.int 0, .int 4, .ref 79], (SS b true), Xu, J, 0, 0)) rfl trivial ?_
                      refine r_callV okX5_readAny okX6_add [.int 4, .int 0] [] 79 rfl rfl rfl kkX6_add rfl rfl (by decide) rfl rfl rfl (by omega) ⟨Nat.le_refl _, Nat.le_refl _⟩ (Nat.le_of_ble_eq_true rfl) (a_addF79 γ gF 4 0) (fun v1 S1 I1 J1 hp => ?_)
                      obtain ⟨⟨zXf1, rfl⟩, rfl, ⟨fXf1, oXf1⟩, rfl⟩ := hp
                      obtain ⟨Xf1, eXf1⟩ : ∃ z, z = I1 := ⟨_, rfl⟩
                      subst eXf1
                      show Rj _ _ _ _ _ _ (122, [some (.ref 95), some (.int (nI q)), some (.int 0), some (.int 1), some (.int ((nI k) + 1)), some (.int 0)], [.int zXf1], (SS b true), Xf1, J, 0, 0)
                      refine r_run okX5_readAny 2 (cs := []) (σ' := (124, [some (.ref 95), some (.int (nI q)), some (.int 0), some (.int 1), some (.int ((nI k) + 1)), some (.int 0)], [.int 0], (SS b true), Xf1, J, 0, 0)) rfl trivial ?_
                      refine r_iret okX5_readAny rfl rfl (by decide +kernel) (Nat.le_refl _) (Nat.le_refl _) ?_
                      exact ⟨rfl, rfl, .inl e, hd _ ⟨1, hs⟩, (fr_t hfu (fA_X fXf1)), rfl, oXf1, (FlO_k (A := 79) (by decide) fXf1 gE)⟩
                  · refine r_run okX5_readAny 1 (cs := []) (σ' := (20, [some (.ref 95), some (.int (nI q)), some (.int 0), some (.int 1), some (.int ((nI k) + 1)), some (.int 0)], [.int 0], (SS b true), Xu, J, 0, 0)) rfl trivial ?_
                    refine r_ifc okX5_readAny rfl (fun (h20_1 : (0 : Int32) = (0 : Int32)) => ?_) (fun (h20_1 : ¬ (0 : Int32) = (0 : Int32)) => ?_)
                    · refine r_run okX5_readAny 1 (cs := []) (σ' := (110, [some (.ref 95), some (.int (nI q)), some (.int 0), some (.int 1), some (.int ((nI k) + 1)), some (.int 0)], [.int 1], (SS b true), Xu, J, 0, 0)) rfl trivial ?_
                      refine r_ifc okX5_readAny rfl (fun (h110_1 : (1 : Int32) = (0 : Int32)) => ?_) (fun (h110_1 : ¬ (1 : Int32) = (0 : Int32)) => ?_)
                      · exact absurd h110_1 (by decide)
                      · refine r_run okX5_readAny 4 (cs := []) (σ' := (119, [some (.ref 95), some (.int (nI q)), some (.int 0), some (.int 1), some (.int ((nI k) + 1)), some (.int 0)], [.int 0, .int 4, .ref 79], (SS b true), Xu, J, 0, 0)) rfl trivial ?_
                        refine r_callV okX5_readAny okX6_add [.int 4, .int 0] [] 79 rfl rfl rfl kkX6_add rfl rfl (by decide) rfl rfl rfl (by omega) ⟨Nat.le_refl _, Nat.le_refl _⟩ (Nat.le_of_ble_eq_true rfl) (a_addF79 γ gF 4 0) (fun v1 S1 I1 J1 hp => ?_)
                        obtain ⟨⟨zXf1, rfl⟩, rfl, ⟨fXf1, oXf1⟩, rfl⟩ := hp
                        obtain ⟨Xf1, eXf1⟩ : ∃ z, z = I1 := ⟨_, rfl⟩
                        subst eXf1
                        show Rj _ _ _ _ _ _ (122, [some (.ref 95), some (.int (nI q)), some (.int 0), some (.int 1), some (.int ((nI k) + 1)), some (.int 0)], [.int zXf1], (SS b true), Xf1, J, 0, 0)
                        refine r_run okX5_readAny 2 (cs := []) (σ' := (124, [some (.ref 95), some (.int (nI q)), some (.int 0), some (.int 1), some (.int ((nI k) + 1)), some (.int 0)], [.int 0], (SS b true), Xf1, J, 0, 0)) rfl trivial ?_
                        refine r_iret okX5_readAny rfl rfl (by decide +kernel) (Nat.le_refl _) (Nat.le_refl _) ?_
                        exact ⟨rfl, rfl, .inl e, hd _ ⟨1, hs⟩, (fr_t hfu (fA_X fXf1)), rfl, oXf1, (FlO_k (A := 79) (by decide) fXf1 gE)⟩
                    · exact absurd h20_1 (by decide)
                · exact absurd h85 (by decide)
              | inr u =>
                obtain ⟨rfl, gP, gO⟩ := hr
                have hq1 := Cn_len hc
                have hq3 := len_flt u.1
                have hq2 := gP.1
                show Rj _ _ _ _ _ _ (82, [some (.ref 95), some (.int (nI q)), some (.int 1), some (.int 0), some (.int (nI k)), some (.int 0)], [.int 1], (SS b true), Xu, J, 0, 0)
                refine r_run okX5_readAny 2 (cs := []) (σ' := (85, [some (.ref 95), some (.int (nI q)), some (.int 1), some (.int 0), some (.int (nI k)), some (.int 0)], [.int 0], (SS b true), Xu, J, 0, 0)) rfl trivial ?_
                refine r_ifc okX5_readAny rfl (fun (h85_1 : (0 : Int32) = (0 : Int32)) => ?_) (fun (h85_1 : ¬ (0 : Int32) = (0 : Int32)) => ?_)
                · refine r_run okX5_readAny 4 (cs := []) (σ' := (11, [some (.ref 95), some (.int (nI q)), some (.int 1), some (.int 1), some (.int ((nI k) + 1)), some (.int 0)], [], (SS b true), Xu, J, 0, 0)) rfl trivial ?_
                  rw [← nI_succ]
                  refine r_weak (L' := [some (.ref 95), some (.int (nI q)), some (.int 1), some (.int 1), some (.int (nI (k + 1))), none]) ⟨rfl, rfl, rfl, rfl, rfl, trivial⟩ ?_
                  refine K u _ hc (Tkn_k (A := 79) (by decide) hfr hTa) gP ?_ (fr_t hfa hfr)
                  rw [show l ++ (acc ++ wO 0 ++ u.1) = l ++ acc ++ wO 0 ++ u.1 by simp only [List.append_assoc]]
                  rw [show wO 0 = [] from rfl, app_n]; exact gO
                · exact absurd h85_1 (by decide)
            · exact absurd h60 (by decide)
        · have h44 : (4 : Int32) = (5 : Int32) := Classical.not_not.mp h440
          exact absurd h44 (by decide)
      · exact absurd h28 (by decide)
theorem an_end1_79 (γ : GE) {b : Bool} {J : AJ} {T : Nat → Int32} {n N i0 r q : Nat} {l : Cd} {X0 : AI} {X : AI} {i k : Nat} {acc : Cd} (k4 : ¬ kK T n i = 4) (k5 : ¬ kK T n i = 5) (hT : Tkn T n N X) (hP : PsO T n N X i) (hO : OuO X 79 (l ++ acc)) (hl : (l ++ acc).length + 1 ≤ i) (hk : k ≤ i) (hf : fr (qX 79) X0 X) (hd : ∀ res, (∃ f, AnT T n (Cn T n r) f 1 i acc res) → An T n (Cn T n r) i0 res) : Rj γ mX5_readAny (4 + 2 * r) 0 0 (fun rt S' I' J' => (SS b true) = S' ∧ J = J' ∧ ∃ res, An T n (Cn T n r) i0 res ∧ RsO T n N 79 X0 l res rt I') (11, [some (.ref 95), some (.int (nI q)), some (.int 1), some (.int 1), some (.int (nI k)), none], [], (SS b true), X, J, 0, 0) := by
  have hN := hT.1
  have hiN := hP.1
  have e7 := hP.2.2.1
  refine r_run okX5_readAny 2 (cs := []) (σ' := (16, [some (.ref 95), some (.int (nI q)), some (.int 1), some (.int 1), some (.int (nI k)), none], [.int 800, .int (nI k)], (SS b true), X, J, 0, 0)) rfl trivial ?_
  refine r_icmp okX5_readAny rfl (fun (h16 : (800 : Int32) ≤ (nI k)) => ?_) (fun (h16 : ¬ (800 : Int32) ≤ (nI k)) => ?_)
  · refine r_run okX5_readAny 1 (cs := []) (σ' := (110, [some (.ref 95), some (.int (nI q)), some (.int 1), some (.int 1), some (.int (nI k)), none], [.int 1], (SS b true), X, J, 0, 0)) rfl trivial ?_
    refine r_ifc okX5_readAny rfl (fun (h110 : (1 : Int32) = (0 : Int32)) => ?_) (fun (h110 : ¬ (1 : Int32) = (0 : Int32)) => ?_)
    · exact absurd h110 (by decide)
    · refine r_run okX5_readAny 4 (cs := []) (σ' := (119, [some (.ref 95), some (.int (nI q)), some (.int 1), some (.int 1), some (.int (nI k)), none], [.int 0, .int 4, .ref 79], (SS b true), X, J, 0, 0)) rfl trivial ?_
      refine r_callV okX5_readAny okX6_add [.int 4, .int 0] [] 79 rfl rfl rfl kkX6_add rfl rfl (by decide) rfl rfl rfl (by omega) ⟨Nat.le_refl _, Nat.le_refl _⟩ (Nat.le_of_ble_eq_true rfl) (a_add79 γ hO (by simp only [List.length_append, List.length_cons, List.length_nil] at *; omega) (p := (11, 0)) rfl) (fun v1 S1 I1 J1 hp => ?_)
      obtain ⟨rfl, rfl, ⟨fXe, oXe⟩, rfl⟩ := hp
      obtain ⟨Xe, eXe⟩ : ∃ z, z = I1 := ⟨_, rfl⟩
      subst eXe
      show Rj _ _ _ _ _ _ (122, [some (.ref 95), some (.int (nI q)), some (.int 1), some (.int 1), some (.int (nI k)), none], [.int 1], (SS b true), Xe, J, 0, 0)
      refine r_run okX5_readAny 2 (cs := []) (σ' := (124, [some (.ref 95), some (.int (nI q)), some (.int 1), some (.int 1), some (.int (nI k)), none], [.int 1], (SS b true), Xe, J, 0, 0)) rfl trivial ?_
      refine r_iret okX5_readAny rfl rfl (by decide +kernel) (Nat.le_refl _) (Nat.le_refl _) ?_
      have hs : AnT T n (Cn T n r) 1 1 i acc (.inr (acc ++ wO 1, i)) := by
        unfold AnT; rw [if_neg k5, if_neg k4]
      exact ⟨rfl, rfl, _, hd _ ⟨1, hs⟩, fr_t hf (fA_X fXe), rfl, PsO_k (A := 79) (by decide) fXe hP, by show OuO Xe 79 (l ++ (acc ++ [(11, 0)])); rw [← List.append_assoc]; exact oXe⟩
  · refine r_run okX5_readAny 1 (cs := []) (σ' := (20, [some (.ref 95), some (.int (nI q)), some (.int 1), some (.int 1), some (.int (nI k)), none], [.int 1], (SS b true), X, J, 0, 0)) rfl trivial ?_
    refine r_ifc okX5_readAny rfl (fun (h20 : (1 : Int32) = (0 : Int32)) => ?_) (fun (h20 : ¬ (1 : Int32) = (0 : Int32)) => ?_)
    · exact absurd h20 (by decide)
    · refine r_run okX5_readAny 3 (cs := []) (σ' := (28, [some (.ref 95), some (.int (nI q)), some (.int 1), some (.int 1), some (.int (nI k)), none], [.int 4, .int (X 95 7)], (SS b true), X, J, 0, 0)) rfl trivial ?_
      simp only [e7]
      show Rj _ _ _ _ _ _ (28, [some (.ref 95), some (.int (nI q)), some (.int 1), some (.int 1), some (.int (nI k)), none], [.int 4, .int (kK T n i)], (SS b true), X, J, 0, 0)
      refine r_icmp okX5_readAny rfl (fun (h28 : (kK T n i) = (4 : Int32)) => ?_) (fun (h28 : ¬ (kK T n i) = (4 : Int32)) => ?_)
      · exact absurd h28 k4
      · refine r_run okX5_readAny 3 (cs := []) (σ' := (36, [some (.ref 95), some (.int (nI q)), some (.int 1), some (.int 1), some (.int (nI k)), none], [.int 5, .int (X 95 7)], (SS b true), X, J, 0, 0)) rfl trivial ?_
        simp only [e7]
        show Rj _ _ _ _ _ _ (36, [some (.ref 95), some (.int (nI q)), some (.int 1), some (.int 1), some (.int (nI k)), none], [.int 5, .int (kK T n i)], (SS b true), X, J, 0, 0)
        refine r_icmp okX5_readAny rfl (fun (h36 : ¬ (kK T n i) = (5 : Int32)) => ?_) (fun h360 => ?_)
        · refine r_run okX5_readAny 1 (cs := []) (σ' := (110, [some (.ref 95), some (.int (nI q)), some (.int 1), some (.int 1), some (.int (nI k)), none], [.int 1], (SS b true), X, J, 0, 0)) rfl trivial ?_
          refine r_ifc okX5_readAny rfl (fun (h110_1 : (1 : Int32) = (0 : Int32)) => ?_) (fun (h110_1 : ¬ (1 : Int32) = (0 : Int32)) => ?_)
          · exact absurd h110_1 (by decide)
          · refine r_run okX5_readAny 4 (cs := []) (σ' := (119, [some (.ref 95), some (.int (nI q)), some (.int 1), some (.int 1), some (.int (nI k)), none], [.int 0, .int 4, .ref 79], (SS b true), X, J, 0, 0)) rfl trivial ?_
            refine r_callV okX5_readAny okX6_add [.int 4, .int 0] [] 79 rfl rfl rfl kkX6_add rfl rfl (by decide) rfl rfl rfl (by omega) ⟨Nat.le_refl _, Nat.le_refl _⟩ (Nat.le_of_ble_eq_true rfl) (a_add79 γ hO (by simp only [List.length_append, List.length_cons, List.length_nil] at *; omega) (p := (11, 0)) rfl) (fun v1 S1 I1 J1 hp => ?_)
            obtain ⟨rfl, rfl, ⟨fXe, oXe⟩, rfl⟩ := hp
            obtain ⟨Xe, eXe⟩ : ∃ z, z = I1 := ⟨_, rfl⟩
            subst eXe
            show Rj _ _ _ _ _ _ (122, [some (.ref 95), some (.int (nI q)), some (.int 1), some (.int 1), some (.int (nI k)), none], [.int 1], (SS b true), Xe, J, 0, 0)
            refine r_run okX5_readAny 2 (cs := []) (σ' := (124, [some (.ref 95), some (.int (nI q)), some (.int 1), some (.int 1), some (.int (nI k)), none], [.int 1], (SS b true), Xe, J, 0, 0)) rfl trivial ?_
            refine r_iret okX5_readAny rfl rfl (by decide +kernel) (Nat.le_refl _) (Nat.le_refl _) ?_
            have hs : AnT T n (Cn T n r) 1 1 i acc (.inr (acc ++ wO 1, i)) := by
              unfold AnT; rw [if_neg k5, if_neg k4]
            exact ⟨rfl, rfl, _, hd _ ⟨1, hs⟩, fr_t hf (fA_X fXe), rfl, PsO_k (A := 79) (by decide) fXe hP, by show OuO Xe 79 (l ++ (acc ++ [(11, 0)])); rw [← List.append_assoc]; exact oXe⟩
        · have h36 : (kK T n i) = (5 : Int32) := Classical.not_not.mp h360
          exact absurd h36 k5
theorem an_5_1_79 (γ : GE) {b : Bool} {J : AJ} {T : Nat → Int32} {n N i0 r q : Nat} {l : Cd} {X0 : AI} (hC : CnC79 γ b T n N r) (hq : q + r = 8) {X : AI} {i k : Nat} {acc : Cd} (h : kK T n i = 5) (hT : Tkn T n N X) (hP : PsO T n N X i) (hO : OuO X 79 (l ++ acc)) (hl : (l ++ acc).length + 1 ≤ i) (hk : k ≤ i) (hf : fr (qX 79) X0 X) (hd : ∀ res, (∃ f, AnT T n (Cn T n r) f 1 i acc res) → An T n (Cn T n r) i0 res) (K : ∀ (u : Cd × Nat) (Y : AI), Cn T n r (i + 1) (.inr u) → Tkn T n N Y → PsO T n N Y u.2 → OuO Y 79 (l ++ (acc ++ u.1 ++ [(10, 0)])) → fr (qX 79) X0 Y → Rj γ mX5_readAny (4 + 2 * r) 0 0 (fun rt S' I' J' => (SS b true) = S' ∧ J = J' ∧ ∃ res, An T n (Cn T n r) i0 res ∧ RsO T n N 79 X0 l res rt I') (11, [some (.ref 95), some (.int (nI q)), some (.int 1), some (.int 1), some (.int (nI (k + 1))), none], [], (SS b true), Y, J, 0, 0)) : Rj γ mX5_readAny (4 + 2 * r) 0 0 (fun rt S' I' J' => (SS b true) = S' ∧ J = J' ∧ ∃ res, An T n (Cn T n r) i0 res ∧ RsO T n N 79 X0 l res rt I') (11, [some (.ref 95), some (.int (nI q)), some (.int 1), some (.int 1), some (.int (nI k)), none], [], (SS b true), X, J, 0, 0) := by
  have hN := hT.1
  have hiN := hP.1
  have e7 : X 95 7 = 5 := hP.2.2.1.trans h
  have hi : i < N := kK_lt hT hiN (by rw [h]; decide)
  refine r_run okX5_readAny 2 (cs := []) (σ' := (16, [some (.ref 95), some (.int (nI q)), some (.int 1), some (.int 1), some (.int (nI k)), none], [.int 800, .int (nI k)], (SS b true), X, J, 0, 0)) rfl trivial ?_
  refine r_icmp okX5_readAny rfl (fun (h16 : (800 : Int32) ≤ (nI k)) => ?_) (fun (h16 : ¬ (800 : Int32) ≤ (nI k)) => ?_)
  · exact absurd h16 (nI_ge (b := 800) (by omega) (by decide))
  · refine r_run okX5_readAny 1 (cs := []) (σ' := (20, [some (.ref 95), some (.int (nI q)), some (.int 1), some (.int 1), some (.int (nI k)), none], [.int 1], (SS b true), X, J, 0, 0)) rfl trivial ?_
    refine r_ifc okX5_readAny rfl (fun (h20 : (1 : Int32) = (0 : Int32)) => ?_) (fun (h20 : ¬ (1 : Int32) = (0 : Int32)) => ?_)
    · exact absurd h20 (by decide)
    · refine r_run okX5_readAny 3 (cs := []) (σ' := (28, [some (.ref 95), some (.int (nI q)), some (.int 1), some (.int 1), some (.int (nI k)), none], [.int 4, .int (X 95 7)], (SS b true), X, J, 0, 0)) rfl trivial ?_
      simp only [e7]
      show Rj _ _ _ _ _ _ (28, [some (.ref 95), some (.int (nI q)), some (.int 1), some (.int 1), some (.int (nI k)), none], [.int 4, .int 5], (SS b true), X, J, 0, 0)
      refine r_icmp okX5_readAny rfl (fun (h28 : (5 : Int32) = (4 : Int32)) => ?_) (fun (h28 : ¬ (5 : Int32) = (4 : Int32)) => ?_)
      · exact absurd h28 (by decide)
      · refine r_run okX5_readAny 3 (cs := []) (σ' := (36, [some (.ref 95), some (.int (nI q)), some (.int 1), some (.int 1), some (.int (nI k)), none], [.int 5, .int (X 95 7)], (SS b true), X, J, 0, 0)) rfl trivial ?_
        simp only [e7]
        show Rj _ _ _ _ _ _ (36, [some (.ref 95), some (.int (nI q)), some (.int 1), some (.int 1), some (.int (nI k)), none], [.int 5, .int 5], (SS b true), X, J, 0, 0)
        refine r_icmp okX5_readAny rfl (fun (h36 : ¬ (5 : Int32) = (5 : Int32)) => ?_) (fun h360 => ?_)
        · exact absurd h36 (by decide)
        · have h36 : (5 : Int32) = (5 : Int32) := Classical.not_not.mp h360
          refine r_run okX5_readAny 3 (cs := []) (σ' := (44, [some (.ref 95), some (.int (nI q)), some (.int 1), some (.int 1), some (.int (nI k)), none], [.int 5, .int (X 95 7)], (SS b true), X, J, 0, 0)) rfl trivial ?_
          simp only [e7]
          show Rj _ _ _ _ _ _ (44, [some (.ref 95), some (.int (nI q)), some (.int 1), some (.int 1), some (.int (nI k)), none], [.int 5, .int 5], (SS b true), X, J, 0, 0)
          refine r_icmp okX5_readAny rfl (fun (h44 : ¬ (5 : Int32) = (5 : Int32)) => ?_) (fun h440 => ?_)
          · exact absurd h44 (by decide)
          · have h44 : (5 : Int32) = (5 : Int32) := Classical.not_not.mp h440
            refine r_run okX5_readAny 4 (cs := []) (σ' := (56, [some (.ref 95), some (.int (nI q)), some (.int 1), some (.int 1), some (.int (nI k)), some (.int 1)], [.int 1], (SS b true), X, J, 0, 0)) rfl trivial ?_
            refine r_ifc okX5_readAny rfl (fun (h56 : ¬ (1 : Int32) = (0 : Int32)) => ?_) (fun h560 => ?_)
            · refine r_run okX5_readAny 1 (cs := []) (σ' := (74, [some (.ref 95), some (.int (nI q)), some (.int 1), some (.int 1), some (.int (nI k)), some (.int 1)], [.ref 95], (SS b true), X, J, 0, 0)) rfl trivial ?_
              refine r_callV okX5_readAny okX5_advance [] [] 95 rfl rfl rfl kkX5_advance rfl rfl (by decide) rfl rfl rfl (by omega) ⟨Nat.le_refl _, Nat.le_refl _⟩ (Nat.le_of_ble_eq_true rfl) (b_adv79 γ hT hP hi) (fun v1 S1 I1 J1 hp => ?_)
              obtain ⟨rfl, rfl, ⟨fXa, pXa⟩, rfl⟩ := hp
              obtain ⟨Xa, eXa⟩ : ∃ z, z = I1 := ⟨_, rfl⟩
              subst eXa
              have hTa : Tkn T n N Xa := Tkn_k (A := 79) (by decide) (f9_X fXa) hT
              have hOa := OuO_9 (by decide) fXa hO
              have hfa : fr (qX 79) X0 Xa := fr_t hf (f9_X fXa)
              show Rj _ _ _ _ _ _ (77, [some (.ref 95), some (.int (nI q)), some (.int 1), some (.int 1), some (.int (nI k)), some (.int 1)], [], (SS b true), Xa, J, 0, 0)
              refine r_run okX5_readAny 2 (cs := []) (σ' := (79, [some (.ref 95), some (.int (nI q)), some (.int 1), some (.int 1), some (.int (nI k)), some (.int 1)], [.int (nI q), .ref 95], (SS b true), Xa, J, 0, 0)) rfl trivial ?_
              refine r_callV okX5_readAny okX5_readCondition [.int (nI q)] [] 95 rfl rfl rfl kkX5_readCondition rfl rfl (by decide) rfl rfl rfl (by omega) ⟨Nat.le_refl _, Nat.le_refl _⟩ (Nat.le_of_ble_eq_true rfl) (hC Xa J (i + 1) q _ hq hTa pXa hOa (by simp only [List.length_append, List.length_cons, List.length_nil] at *; omega)) (fun v1 S1 I1 J1 hp => ?_)
              obtain ⟨rfl, rfl, res, hc, hfr, hr⟩ := hp
              obtain ⟨Xu, eXu⟩ : ∃ z, z = I1 := ⟨_, rfl⟩
              subst eXu
              cases res with
              | inl e =>
                obtain ⟨rfl, gF, gE⟩ := hr
                have hfu : fr (qX 79) X0 Xu := fr_t hfa hfr
                have hs : AnT T n (Cn T n r) 1 1 i acc (.inl e) := by unfold AnT; rw [if_pos h]; exact ⟨_, hc, Or.inl ⟨e, rfl, rfl⟩⟩
                show Rj _ _ _ _ _ _ (82, [some (.ref 95), some (.int (nI q)), some (.int 1), some (.int 1), some (.int (nI k)), some (.int 1)], [.int 0], (SS b true), Xu, J, 0, 0)
                refine r_run okX5_readAny 2 (cs := []) (σ' := (85, [some (.ref 95), some (.int (nI q)), some (.int 0), some (.int 1), some (.int (nI k)), some (.int 1)], [.int 1], (SS b true), Xu, J, 0, 0)) rfl trivial ?_
                refine r_ifc okX5_readAny rfl (fun (h85 : (1 : Int32) = (0 : Int32)) => ?_) (fun (h85 : ¬ (1 : Int32) = (0 : Int32)) => ?_)
                · exact absurd h85 (by decide)
                · refine r_run okX5_readAny 4 (cs := []) (σ' := (94, [some (.ref 95), some (.int (nI q)), some (.int 0), some (.int 1), some (.int (nI k)), some (.int 1)], [.int 0, .int 5, .ref 79], (SS b true), Xu, J, 0, 0)) rfl trivial ?_
                  refine r_callV okX5_readAny okX6_add [.int 5, .int 0] [] 79 rfl rfl rfl kkX6_add rfl rfl (by decide) rfl rfl rfl (by omega) ⟨Nat.le_refl _, Nat.le_refl _⟩ (Nat.le_of_ble_eq_true rfl) (a_addF79 γ gF 5 0) (fun v1 S1 I1 J1 hp => ?_)
                  obtain ⟨⟨zXf1, rfl⟩, rfl, ⟨fXf1, oXf1⟩, rfl⟩ := hp
                  obtain ⟨Xf1, eXf1⟩ : ∃ z, z = I1 := ⟨_, rfl⟩
                  subst eXf1
                  show Rj _ _ _ _ _ _ (97, [some (.ref 95), some (.int (nI q)), some (.int 0), some (.int 1), some (.int (nI k)), some (.int 1)], [.int zXf1], (SS b true), Xf1, J, 0, 0)
                  refine r_run okX5_readAny 6 (cs := []) (σ' := (16, [some (.ref 95), some (.int (nI q)), some (.int 0), some (.int 1), some (.int ((nI k) + 1)), some (.int 1)], [.int 800, .int ((nI k) + 1)], (SS b true), Xf1, J, 0, 0)) rfl trivial ?_
                  refine r_icmp okX5_readAny rfl (fun (h16_1 : (800 : Int32) ≤ ((nI k) + 1)) => ?_) (fun (h16_1 : ¬ (800 : Int32) ≤ ((nI k) + 1)) => ?_)
                  · refine r_run okX5_readAny 1 (cs := []) (σ' := (110, [some (.ref 95), some (.int (nI q)), some (.int 0), some (.int 1), some (.int ((nI k) + 1)), some (.int 1)], [.int 1], (SS b true), Xf1, J, 0, 0)) rfl trivial ?_
                    refine r_ifc okX5_readAny rfl (fun (h110 : (1 : Int32) = (0 : Int32)) => ?_) (fun (h110 : ¬ (1 : Int32) = (0 : Int32)) => ?_)
                    · exact absurd h110 (by decide)
                    · refine r_run okX5_readAny 4 (cs := []) (σ' := (119, [some (.ref 95), some (.int (nI q)), some (.int 0), some (.int 1), some (.int ((nI k) + 1)), some (.int 1)], [.int 0, .int 4, .ref 79], (SS b true), Xf1, J, 0, 0)) rfl trivial ?_
                      refine r_callV okX5_readAny okX6_add [.int 4, .int 0] [] 79 rfl rfl rfl kkX6_add rfl rfl (by decide) rfl rfl rfl (by omega) ⟨Nat.le_refl _, Nat.le_refl _⟩ (Nat.le_of_ble_eq_true rfl) (a_addF79 γ oXf1 4 0) (fun v1 S1 I1 J1 hp => ?_)
                      obtain ⟨⟨zXf2, rfl⟩, rfl, ⟨fXf2, oXf2⟩, rfl⟩ := hp
                      obtain ⟨Xf2, eXf2⟩ : ∃ z, z = I1 := ⟨_, rfl⟩
                      subst eXf2
                      show Rj _ _ _ _ _ _ (122, [some (.ref 95), some (.int (nI q)), some (.int 0), some (.int 1), some (.int ((nI k) + 1)), some (.int 1)], [.int zXf2], (SS b true), Xf2, J, 0, 0)
                      refine r_run okX5_readAny 2 (cs := []) (σ' := (124, [some (.ref 95), some (.int (nI q)), some (.int 0), some (.int 1), some (.int ((nI k) + 1)), some (.int 1)], [.int 0], (SS b true), Xf2, J, 0, 0)) rfl trivial ?_
                      refine r_iret okX5_readAny rfl rfl (by decide +kernel) (Nat.le_refl _) (Nat.le_refl _) ?_
                      exact ⟨rfl, rfl, .inl e, hd _ ⟨1, hs⟩, (fr_t (fr_t hfu (fA_X fXf1)) (fA_X fXf2)), rfl, oXf2, (FlO_k (A := 79) (by decide) fXf2 (FlO_k (A := 79) (by decide) fXf1 gE))⟩
                  · refine r_run okX5_readAny 1 (cs := []) (σ' := (20, [some (.ref 95), some (.int (nI q)), some (.int 0), some (.int 1), some (.int ((nI k) + 1)), some (.int 1)], [.int 0], (SS b true), Xf1, J, 0, 0)) rfl trivial ?_
                    refine r_ifc okX5_readAny rfl (fun (h20_1 : (0 : Int32) = (0 : Int32)) => ?_) (fun (h20_1 : ¬ (0 : Int32) = (0 : Int32)) => ?_)
                    · refine r_run okX5_readAny 1 (cs := []) (σ' := (110, [some (.ref 95), some (.int (nI q)), some (.int 0), some (.int 1), some (.int ((nI k) + 1)), some (.int 1)], [.int 1], (SS b true), Xf1, J, 0, 0)) rfl trivial ?_
                      refine r_ifc okX5_readAny rfl (fun (h110_1 : (1 : Int32) = (0 : Int32)) => ?_) (fun (h110_1 : ¬ (1 : Int32) = (0 : Int32)) => ?_)
                      · exact absurd h110_1 (by decide)
                      · refine r_run okX5_readAny 4 (cs := []) (σ' := (119, [some (.ref 95), some (.int (nI q)), some (.int 0), some (.int 1), some (.int ((nI k) + 1)), some (.int 1)], [.int 0, .int 4, .ref 79], (SS b true), Xf1, J, 0, 0)) rfl trivial ?_
                        refine r_callV okX5_readAny okX6_add [.int 4, .int 0] [] 79 rfl rfl rfl kkX6_add rfl rfl (by decide) rfl rfl rfl (by omega) ⟨Nat.le_refl _, Nat.le_refl _⟩ (Nat.le_of_ble_eq_true rfl) (a_addF79 γ oXf1 4 0) (fun v1 S1 I1 J1 hp => ?_)
                        obtain ⟨⟨zXf2, rfl⟩, rfl, ⟨fXf2, oXf2⟩, rfl⟩ := hp
                        obtain ⟨Xf2, eXf2⟩ : ∃ z, z = I1 := ⟨_, rfl⟩
                        subst eXf2
                        show Rj _ _ _ _ _ _ (122, [some (.ref 95), some (.int (nI q)), some (.int 0), some (.int 1), some (.int ((nI k) + 1)), some (.int 1)], [.int zXf2], (SS b true), Xf2, J, 0, 0)
                        refine r_run okX5_readAny 2 (cs := []) (σ' := (124, [some (.ref 95), some (.int (nI q)), some (.int 0), some (.int 1), some (.int ((nI k) + 1)), some (.int 1)], [.int 0], (SS b true), Xf2, J, 0, 0)) rfl trivial ?_
                        refine r_iret okX5_readAny rfl rfl (by decide +kernel) (Nat.le_refl _) (Nat.le_refl _) ?_
                        exact ⟨rfl, rfl, .inl e, hd _ ⟨1, hs⟩, (fr_t (fr_t hfu (fA_X fXf1)) (fA_X fXf2)), rfl, oXf2, (FlO_k (A := 79) (by decide) fXf2 (FlO_k (A := 79) (by decide) fXf1 gE))⟩
                    · exact absurd h20_1 (by decide)
              | inr u =>
                obtain ⟨rfl, gP, gO⟩ := hr
                have hq1 := Cn_len hc
                have hq3 := len_flt u.1
                have hq2 := gP.1
                show Rj _ _ _ _ _ _ (82, [some (.ref 95), some (.int (nI q)), some (.int 1), some (.int 1), some (.int (nI k)), some (.int 1)], [.int 1], (SS b true), Xu, J, 0, 0)
                refine r_run okX5_readAny 2 (cs := []) (σ' := (85, [some (.ref 95), some (.int (nI q)), some (.int 1), some (.int 1), some (.int (nI k)), some (.int 1)], [.int 1], (SS b true), Xu, J, 0, 0)) rfl trivial ?_
                refine r_ifc okX5_readAny rfl (fun (h85_1 : (1 : Int32) = (0 : Int32)) => ?_) (fun (h85_1 : ¬ (1 : Int32) = (0 : Int32)) => ?_)
                · exact absurd h85_1 (by decide)
                · refine r_run okX5_readAny 4 (cs := []) (σ' := (94, [some (.ref 95), some (.int (nI q)), some (.int 1), some (.int 1), some (.int (nI k)), some (.int 1)], [.int 0, .int 5, .ref 79], (SS b true), Xu, J, 0, 0)) rfl trivial ?_
                  refine r_callV okX5_readAny okX6_add [.int 5, .int 0] [] 79 rfl rfl rfl kkX6_add rfl rfl (by decide) rfl rfl rfl (by omega) ⟨Nat.le_refl _, Nat.le_refl _⟩ (Nat.le_of_ble_eq_true rfl) (a_add79 γ gO (by simp only [List.length_append, List.length_cons, List.length_nil] at *; omega) (p := (10, 0)) rfl) (fun v1 S1 I1 J1 hp => ?_)
                  obtain ⟨rfl, rfl, ⟨fXg, oXg⟩, rfl⟩ := hp
                  obtain ⟨Xg, eXg⟩ : ∃ z, z = I1 := ⟨_, rfl⟩
                  subst eXg
                  show Rj _ _ _ _ _ _ (97, [some (.ref 95), some (.int (nI q)), some (.int 1), some (.int 1), some (.int (nI k)), some (.int 1)], [.int 1], (SS b true), Xg, J, 0, 0)
                  refine r_run okX5_readAny 4 (cs := []) (σ' := (11, [some (.ref 95), some (.int (nI q)), some (.int 1), some (.int 1), some (.int ((nI k) + 1)), some (.int 1)], [], (SS b true), Xg, J, 0, 0)) rfl trivial ?_
                  rw [← nI_succ]
                  refine r_weak (L' := [some (.ref 95), some (.int (nI q)), some (.int 1), some (.int 1), some (.int (nI (k + 1))), none]) ⟨rfl, rfl, rfl, rfl, rfl, trivial⟩ ?_
                  refine K u _ hc (Tkn_k (A := 79) (by decide) (fA_X fXg) (Tkn_k (A := 79) (by decide) hfr hTa)) (PsO_k (A := 79) (by decide) fXg gP) ?_ (fr_t (fr_t hfa hfr) (fA_X fXg))
                  rw [show l ++ (acc ++ u.1 ++ [(10, 0)]) = l ++ acc ++ u.1 ++ [(10, 0)] by simp only [List.append_assoc]]
                  exact oXg
            · have h56 : (1 : Int32) = (0 : Int32) := Classical.not_not.mp h560
              exact absurd h56 (by decide)
theorem an_4_1_79 (γ : GE) {b : Bool} {J : AJ} {T : Nat → Int32} {n N i0 r q : Nat} {l : Cd} {X0 : AI} (hC : CnC79 γ b T n N r) (hq : q + r = 8) {X : AI} {i k : Nat} {acc : Cd} (h : kK T n i = 4) (hT : Tkn T n N X) (hP : PsO T n N X i) (hO : OuO X 79 (l ++ acc)) (hl : (l ++ acc).length + 1 ≤ i) (hk : k ≤ i) (hf : fr (qX 79) X0 X) (hd : ∀ res, (∃ f, AnT T n (Cn T n r) f 1 i acc res) → An T n (Cn T n r) i0 res) (K : ∀ (u : Cd × Nat) (Y : AI), Cn T n r (i + 1) (.inr u) → Tkn T n N Y → PsO T n N Y u.2 → OuO Y 79 (l ++ (acc ++ wO 1 ++ u.1)) → fr (qX 79) X0 Y → Rj γ mX5_readAny (4 + 2 * r) 0 0 (fun rt S' I' J' => (SS b true) = S' ∧ J = J' ∧ ∃ res, An T n (Cn T n r) i0 res ∧ RsO T n N 79 X0 l res rt I') (11, [some (.ref 95), some (.int (nI q)), some (.int 1), some (.int 1), some (.int (nI (k + 1))), none], [], (SS b true), Y, J, 0, 0)) : Rj γ mX5_readAny (4 + 2 * r) 0 0 (fun rt S' I' J' => (SS b true) = S' ∧ J = J' ∧ ∃ res, An T n (Cn T n r) i0 res ∧ RsO T n N 79 X0 l res rt I') (11, [some (.ref 95), some (.int (nI q)), some (.int 1), some (.int 1), some (.int (nI k)), none], [], (SS b true), X, J, 0, 0) := by
  have hN := hT.1
  have hiN := hP.1
  have e7 : X 95 7 = 4 := hP.2.2.1.trans h
  have hi : i < N := kK_lt hT hiN (by rw [h]; decide)
  refine r_run okX5_readAny 2 (cs := []) (σ' := (16, [some (.ref 95), some (.int (nI q)), some (.int 1), some (.int 1), some (.int (nI k)), none], [.int 800, .int (nI k)], (SS b true), X, J, 0, 0)) rfl trivial ?_
  refine r_icmp okX5_readAny rfl (fun (h16 : (800 : Int32) ≤ (nI k)) => ?_) (fun (h16 : ¬ (800 : Int32) ≤ (nI k)) => ?_)
  · exact absurd h16 (nI_ge (b := 800) (by omega) (by decide))
  · refine r_run okX5_readAny 1 (cs := []) (σ' := (20, [some (.ref 95), some (.int (nI q)), some (.int 1), some (.int 1), some (.int (nI k)), none], [.int 1], (SS b true), X, J, 0, 0)) rfl trivial ?_
    refine r_ifc okX5_readAny rfl (fun (h20 : (1 : Int32) = (0 : Int32)) => ?_) (fun (h20 : ¬ (1 : Int32) = (0 : Int32)) => ?_)
    · exact absurd h20 (by decide)
    · refine r_run okX5_readAny 3 (cs := []) (σ' := (28, [some (.ref 95), some (.int (nI q)), some (.int 1), some (.int 1), some (.int (nI k)), none], [.int 4, .int (X 95 7)], (SS b true), X, J, 0, 0)) rfl trivial ?_
      simp only [e7]
      show Rj _ _ _ _ _ _ (28, [some (.ref 95), some (.int (nI q)), some (.int 1), some (.int 1), some (.int (nI k)), none], [.int 4, .int 4], (SS b true), X, J, 0, 0)
      refine r_icmp okX5_readAny rfl (fun (h28 : (4 : Int32) = (4 : Int32)) => ?_) (fun (h28 : ¬ (4 : Int32) = (4 : Int32)) => ?_)
      · refine r_run okX5_readAny 3 (cs := []) (σ' := (44, [some (.ref 95), some (.int (nI q)), some (.int 1), some (.int 1), some (.int (nI k)), none], [.int 5, .int (X 95 7)], (SS b true), X, J, 0, 0)) rfl trivial ?_
        simp only [e7]
        show Rj _ _ _ _ _ _ (44, [some (.ref 95), some (.int (nI q)), some (.int 1), some (.int 1), some (.int (nI k)), none], [.int 5, .int 4], (SS b true), X, J, 0, 0)
        refine r_icmp okX5_readAny rfl (fun (h44 : ¬ (4 : Int32) = (5 : Int32)) => ?_) (fun h440 => ?_)
        · refine r_run okX5_readAny 3 (cs := []) (σ' := (56, [some (.ref 95), some (.int (nI q)), some (.int 1), some (.int 1), some (.int (nI k)), some (.int 0)], [.int 0], (SS b true), X, J, 0, 0)) rfl trivial ?_
          refine r_ifc okX5_readAny rfl (fun (h56 : ¬ (0 : Int32) = (0 : Int32)) => ?_) (fun h560 => ?_)
          · exact absurd h56 (by decide)
          · have h56 : (0 : Int32) = (0 : Int32) := Classical.not_not.mp h560
            refine r_run okX5_readAny 1 (cs := []) (σ' := (60, [some (.ref 95), some (.int (nI q)), some (.int 1), some (.int 1), some (.int (nI k)), some (.int 0)], [.int 1], (SS b true), X, J, 0, 0)) rfl trivial ?_
            refine r_ifc okX5_readAny rfl (fun (h60 : (1 : Int32) = (0 : Int32)) => ?_) (fun (h60 : ¬ (1 : Int32) = (0 : Int32)) => ?_)
            · exact absurd h60 (by decide)
            · refine r_run okX5_readAny 4 (cs := []) (σ' := (69, [some (.ref 95), some (.int (nI q)), some (.int 1), some (.int 1), some (.int (nI k)), some (.int 0)], [.int 0, .int 4, .ref 79], (SS b true), X, J, 0, 0)) rfl trivial ?_
              refine r_callV okX5_readAny okX6_add [.int 4, .int 0] [] 79 rfl rfl rfl kkX6_add rfl rfl (by decide) rfl rfl rfl (by omega) ⟨Nat.le_refl _, Nat.le_refl _⟩ (Nat.le_of_ble_eq_true rfl) (a_add79 γ hO (by simp only [List.length_append, List.length_cons, List.length_nil] at *; omega) (p := (11, 0)) rfl) (fun v1 S1 I1 J1 hp => ?_)
              obtain ⟨rfl, rfl, ⟨fXw, oXw⟩, rfl⟩ := hp
              obtain ⟨Xw, eXw⟩ : ∃ z, z = I1 := ⟨_, rfl⟩
              subst eXw
              show Rj _ _ _ _ _ _ (72, [some (.ref 95), some (.int (nI q)), some (.int 1), some (.int 1), some (.int (nI k)), some (.int 0)], [.int 1], (SS b true), Xw, J, 0, 0)
              refine r_run okX5_readAny 2 (cs := []) (σ' := (74, [some (.ref 95), some (.int (nI q)), some (.int 1), some (.int 1), some (.int (nI k)), some (.int 0)], [.ref 95], (SS b true), Xw, J, 0, 0)) rfl trivial ?_
              refine r_callV okX5_readAny okX5_advance [] [] 95 rfl rfl rfl kkX5_advance rfl rfl (by decide) rfl rfl rfl (by omega) ⟨Nat.le_refl _, Nat.le_refl _⟩ (Nat.le_of_ble_eq_true rfl) (b_adv79 γ (Tkn_k (A := 79) (by decide) (fA_X fXw) hT) (PsO_k (A := 79) (by decide) fXw hP) hi) (fun v1 S1 I1 J1 hp => ?_)
              obtain ⟨rfl, rfl, ⟨fXa, pXa⟩, rfl⟩ := hp
              obtain ⟨Xa, eXa⟩ : ∃ z, z = I1 := ⟨_, rfl⟩
              subst eXa
              have hTa : Tkn T n N Xa := Tkn_k (A := 79) (by decide) (f9_X fXa) (Tkn_k (A := 79) (by decide) (fA_X fXw) hT)
              have hOa := OuO_9 (by decide) fXa oXw
              have hfa : fr (qX 79) X0 Xa := fr_t hf (fr_t (fA_X fXw) (f9_X fXa))
              show Rj _ _ _ _ _ _ (77, [some (.ref 95), some (.int (nI q)), some (.int 1), some (.int 1), some (.int (nI k)), some (.int 0)], [], (SS b true), Xa, J, 0, 0)
              refine r_run okX5_readAny 2 (cs := []) (σ' := (79, [some (.ref 95), some (.int (nI q)), some (.int 1), some (.int 1), some (.int (nI k)), some (.int 0)], [.int (nI q), .ref 95], (SS b true), Xa, J, 0, 0)) rfl trivial ?_
              refine r_callV okX5_readAny okX5_readCondition [.int (nI q)] [] 95 rfl rfl rfl kkX5_readCondition rfl rfl (by decide) rfl rfl rfl (by omega) ⟨Nat.le_refl _, Nat.le_refl _⟩ (Nat.le_of_ble_eq_true rfl) (hC Xa J (i + 1) q _ hq hTa pXa hOa (by simp only [List.length_append, List.length_cons, List.length_nil] at *; omega)) (fun v1 S1 I1 J1 hp => ?_)
              obtain ⟨rfl, rfl, res, hc, hfr, hr⟩ := hp
              obtain ⟨Xu, eXu⟩ : ∃ z, z = I1 := ⟨_, rfl⟩
              subst eXu
              cases res with
              | inl e =>
                obtain ⟨rfl, gF, gE⟩ := hr
                have hfu : fr (qX 79) X0 Xu := fr_t hfa hfr
                have hs : AnT T n (Cn T n r) 1 1 i acc (.inl e) := by unfold AnT; rw [if_neg (by rw [h]; decide), if_pos h]; exact ⟨_, hc, Or.inl ⟨e, rfl, rfl⟩⟩
                show Rj _ _ _ _ _ _ (82, [some (.ref 95), some (.int (nI q)), some (.int 1), some (.int 1), some (.int (nI k)), some (.int 0)], [.int 0], (SS b true), Xu, J, 0, 0)
                refine r_run okX5_readAny 2 (cs := []) (σ' := (85, [some (.ref 95), some (.int (nI q)), some (.int 0), some (.int 1), some (.int (nI k)), some (.int 0)], [.int 0], (SS b true), Xu, J, 0, 0)) rfl trivial ?_
                refine r_ifc okX5_readAny rfl (fun (h85 : (0 : Int32) = (0 : Int32)) => ?_) (fun (h85 : ¬ (0 : Int32) = (0 : Int32)) => ?_)
                · refine r_run okX5_readAny 6 (cs := []) (σ' := (16, [some (.ref 95), some (.int (nI q)), some (.int 0), some (.int 1), some (.int ((nI k) + 1)), some (.int 0)], [.int 800, .int ((nI k) + 1)], (SS b true), Xu, J, 0, 0)) rfl trivial ?_
                  refine r_icmp okX5_readAny rfl (fun (h16_1 : (800 : Int32) ≤ ((nI k) + 1)) => ?_) (fun (h16_1 : ¬ (800 : Int32) ≤ ((nI k) + 1)) => ?_)
                  · refine r_run okX5_readAny 1 (cs := []) (σ' := (110, [some (.ref 95), some (.int (nI q)), some (.int 0), some (.int 1), some (.int ((nI k) + 1)), some (.int 0)], [.int 1], (SS b true), Xu, J, 0, 0)) rfl trivial ?_
                    refine r_ifc okX5_readAny rfl (fun (h110 : (1 : Int32) = (0 : Int32)) => ?_) (fun (h110 : ¬ (1 : Int32) = (0 : Int32)) => ?_)
                    · exact absurd h110 (by decide)
                    · refine r_run okX5_readAny 4 (cs := []) (σ' := (119, [some (.ref 95), some (.int (nI q)), some (.int 0), some (.int 1), some (.int ((nI k) + 1)), some (.int 0)], [.int 0, .int 4, .ref 79], (SS b true), Xu, J, 0, 0)) rfl trivial ?_
                      refine r_callV okX5_readAny okX6_add [.int 4, .int 0] [] 79 rfl rfl rfl kkX6_add rfl rfl (by decide) rfl rfl rfl (by omega) ⟨Nat.le_refl _, Nat.le_refl _⟩ (Nat.le_of_ble_eq_true rfl) (a_addF79 γ gF 4 0) (fun v1 S1 I1 J1 hp => ?_)
                      obtain ⟨⟨zXf1, rfl⟩, rfl, ⟨fXf1, oXf1⟩, rfl⟩ := hp
                      obtain ⟨Xf1, eXf1⟩ : ∃ z, z = I1 := ⟨_, rfl⟩
                      subst eXf1
                      show Rj _ _ _ _ _ _ (122, [some (.ref 95), some (.int (nI q)), some (.int 0), some (.int 1), some (.int ((nI k) + 1)), some (.int 0)], [.int zXf1], (SS b true), Xf1, J, 0, 0)
                      refine r_run okX5_readAny 2 (cs := []) (σ' := (124, [some (.ref 95), some (.int (nI q)), some (.int 0), some (.int 1), some (.int ((nI k) + 1)), some (.int 0)], [.int 0], (SS b true), Xf1, J, 0, 0)) rfl trivial ?_
                      refine r_iret okX5_readAny rfl rfl (by decide +kernel) (Nat.le_refl _) (Nat.le_refl _) ?_
                      exact ⟨rfl, rfl, .inl e, hd _ ⟨1, hs⟩, (fr_t hfu (fA_X fXf1)), rfl, oXf1, (FlO_k (A := 79) (by decide) fXf1 gE)⟩
                  · refine r_run okX5_readAny 1 (cs := []) (σ' := (20, [some (.ref 95), some (.int (nI q)), some (.int 0), some (.int 1), some (.int ((nI k) + 1)), some (.int 0)], [.int 0], (SS b true), Xu, J, 0, 0)) rfl trivial ?_
                    refine r_ifc okX5_readAny rfl (fun (h20_1 : (0 : Int32) = (0 : Int32)) => ?_) (fun (h20_1 : ¬ (0 : Int32) = (0 : Int32)) => ?_)
                    · refine r_run okX5_readAny 1 (cs := []) (σ' := (110, [some (.ref 95), some (.int (nI q)), some (.int 0), some (.int 1), some (.int ((nI k) + 1)), some (.int 0)], [.int 1], (SS b true), Xu, J, 0, 0)) rfl trivial ?_
                      refine r_ifc okX5_readAny rfl (fun (h110_1 : (1 : Int32) = (0 : Int32)) => ?_) (fun (h110_1 : ¬ (1 : Int32) = (0 : Int32)) => ?_)
                      · exact absurd h110_1 (by decide)
                      · refine r_run okX5_readAny 4 (cs := []) (σ' := (119, [some (.ref 95), some (.int (nI q)), some (.int 0), some (.int 1), some (.int ((nI k) + 1)), some (.int 0)], [.int 0, .int 4, .ref 79], (SS b true), Xu, J, 0, 0)) rfl trivial ?_
                        refine r_callV okX5_readAny okX6_add [.int 4, .int 0] [] 79 rfl rfl rfl kkX6_add rfl rfl (by decide) rfl rfl rfl (by omega) ⟨Nat.le_refl _, Nat.le_refl _⟩ (Nat.le_of_ble_eq_true rfl) (a_addF79 γ gF 4 0) (fun v1 S1 I1 J1 hp => ?_)
                        obtain ⟨⟨zXf1, rfl⟩, rfl, ⟨fXf1, oXf1⟩, rfl⟩ := hp
                        obtain ⟨Xf1, eXf1⟩ : ∃ z, z = I1 := ⟨_, rfl⟩
                        subst eXf1
                        show Rj _ _ _ _ _ _ (122, [some (.ref 95), some (.int (nI q)), some (.int 0), some (.int 1), some (.int ((nI k) + 1)), some (.int 0)], [.int zXf1], (SS b true), Xf1, J, 0, 0)
                        refine r_run okX5_readAny 2 (cs := []) (σ' := (124, [some (.ref 95), some (.int (nI q)), some (.int 0), some (.int 1), some (.int ((nI k) + 1)), some (.int 0)], [.int 0], (SS b true), Xf1, J, 0, 0)) rfl trivial ?_
                        refine r_iret okX5_readAny rfl rfl (by decide +kernel) (Nat.le_refl _) (Nat.le_refl _) ?_
                        exact ⟨rfl, rfl, .inl e, hd _ ⟨1, hs⟩, (fr_t hfu (fA_X fXf1)), rfl, oXf1, (FlO_k (A := 79) (by decide) fXf1 gE)⟩
                    · exact absurd h20_1 (by decide)
                · exact absurd h85 (by decide)
              | inr u =>
                obtain ⟨rfl, gP, gO⟩ := hr
                have hq1 := Cn_len hc
                have hq3 := len_flt u.1
                have hq2 := gP.1
                show Rj _ _ _ _ _ _ (82, [some (.ref 95), some (.int (nI q)), some (.int 1), some (.int 1), some (.int (nI k)), some (.int 0)], [.int 1], (SS b true), Xu, J, 0, 0)
                refine r_run okX5_readAny 2 (cs := []) (σ' := (85, [some (.ref 95), some (.int (nI q)), some (.int 1), some (.int 1), some (.int (nI k)), some (.int 0)], [.int 0], (SS b true), Xu, J, 0, 0)) rfl trivial ?_
                refine r_ifc okX5_readAny rfl (fun (h85_1 : (0 : Int32) = (0 : Int32)) => ?_) (fun (h85_1 : ¬ (0 : Int32) = (0 : Int32)) => ?_)
                · refine r_run okX5_readAny 4 (cs := []) (σ' := (11, [some (.ref 95), some (.int (nI q)), some (.int 1), some (.int 1), some (.int ((nI k) + 1)), some (.int 0)], [], (SS b true), Xu, J, 0, 0)) rfl trivial ?_
                  rw [← nI_succ]
                  refine r_weak (L' := [some (.ref 95), some (.int (nI q)), some (.int 1), some (.int 1), some (.int (nI (k + 1))), none]) ⟨rfl, rfl, rfl, rfl, rfl, trivial⟩ ?_
                  refine K u _ hc (Tkn_k (A := 79) (by decide) hfr hTa) gP ?_ (fr_t hfa hfr)
                  rw [show l ++ (acc ++ wO 1 ++ u.1) = l ++ acc ++ wO 1 ++ u.1 by simp only [List.append_assoc]]
                  exact gO
                · exact absurd h85_1 (by decide)
        · have h44 : (4 : Int32) = (5 : Int32) := Classical.not_not.mp h440
          exact absurd h44 (by decide)
      · exact absurd h28 (by decide)
theorem lp_an79 (γ : GE) {b : Bool} {J : AJ} {T : Nat → Int32} {n N i0 r q : Nat} {l : Cd} {X0 : AI} (hC : CnC79 γ b T n N r) (hq : q + r = 8) : ∀ (j i k : Nat) (w : Nat) (acc : Cd) (X : AI), w ≤ 1 → N ≤ i + j → Tkn T n N X → PsO T n N X i → OuO X 79 (l ++ acc) → (l ++ acc).length + w ≤ i → k ≤ i → fr (qX 79) X0 X → (∀ res, (∃ f, AnT T n (Cn T n r) f w i acc res) → An T n (Cn T n r) i0 res) → Rj γ mX5_readAny (4 + 2 * r) 0 0 (fun rt S' I' J' => (SS b true) = S' ∧ J = J' ∧ ∃ res, An T n (Cn T n r) i0 res ∧ RsO T n N 79 X0 l res rt I') (11, [some (.ref 95), some (.int (nI q)), some (.int 1), some (.int (nI w)), some (.int (nI k)), none], [], (SS b true), X, J, 0, 0) := by
  intro j
  induction j with
  | zero =>
    intro i k w acc X hw hj hT hP hO hl hk hf hd
    have e : kK T n i = 17 := by rw [show i = N by have := hP.1; omega]; exact hT.2.1
    rcases (by omega : w = 0 ∨ w = 1) with rfl | rfl
    · exact an_end0_79 γ (by rw [e]; decide) (by rw [e]; decide) hT hP hO hl hk hf hd
    · exact an_end1_79 γ (by rw [e]; decide) (by rw [e]; decide) hT hP hO hl hk hf hd
  | succ j ih =>
    intro i k w acc X hw hj hT hP hO hl hk hf hd
    by_cases h5 : kK T n i = 5
    · rcases (by omega : w = 0 ∨ w = 1) with rfl | rfl
      · refine an_5_0_79 γ hC hq h5 hT hP hO hl hk hf hd (fun u Y hc h1 h2 h3 h4_ => ?_)
        have hq1 := Cn_len hc
        have hq3 := len_flt u.1
        have hw0 : (wO 0).length = 0 := rfl
        refine ih u.2 (k + 1) 0 _ Y (by omega) (by omega) h1 h2 h3 (by simp only [List.length_append, List.length_cons, List.length_nil] at *; omega) (by omega) h4_ (fun res hr => hd res ?_)
        obtain ⟨f, hg⟩ := hr
        exact ⟨f + 1, by unfold AnT; rw [if_pos h5]; exact ⟨_, hc, Or.inr ⟨u, rfl, hg⟩⟩⟩
      · refine an_5_1_79 γ hC hq h5 hT hP hO hl hk hf hd (fun u Y hc h1 h2 h3 h4_ => ?_)
        have hq1 := Cn_len hc
        have hq3 := len_flt u.1
        have hw0 : (wO 1).length = 1 := rfl
        refine ih u.2 (k + 1) 1 _ Y (by omega) (by omega) h1 h2 h3 (by simp only [List.length_append, List.length_cons, List.length_nil] at *; omega) (by omega) h4_ (fun res hr => hd res ?_)
        obtain ⟨f, hg⟩ := hr
        exact ⟨f + 1, by unfold AnT; rw [if_pos h5]; exact ⟨_, hc, Or.inr ⟨u, rfl, hg⟩⟩⟩
    by_cases h4 : kK T n i = 4
    · rcases (by omega : w = 0 ∨ w = 1) with rfl | rfl
      · refine an_4_0_79 γ hC hq h4 hT hP hO hl hk hf hd (fun u Y hc h1 h2 h3 h4_ => ?_)
        have hq1 := Cn_len hc
        have hq3 := len_flt u.1
        have hw0 : (wO 0).length = 0 := rfl
        refine ih u.2 (k + 1) 1 _ Y (by omega) (by omega) h1 h2 h3 (by simp only [List.length_append, List.length_cons, List.length_nil] at *; omega) (by omega) h4_ (fun res hr => hd res ?_)
        obtain ⟨f, hg⟩ := hr
        exact ⟨f + 1, by unfold AnT; rw [if_neg h5, if_pos h4]; exact ⟨_, hc, Or.inr ⟨u, rfl, hg⟩⟩⟩
      · refine an_4_1_79 γ hC hq h4 hT hP hO hl hk hf hd (fun u Y hc h1 h2 h3 h4_ => ?_)
        have hq1 := Cn_len hc
        have hq3 := len_flt u.1
        have hw0 : (wO 1).length = 1 := rfl
        refine ih u.2 (k + 1) 1 _ Y (by omega) (by omega) h1 h2 h3 (by simp only [List.length_append, List.length_cons, List.length_nil] at *; omega) (by omega) h4_ (fun res hr => hd res ?_)
        obtain ⟨f, hg⟩ := hr
        exact ⟨f + 1, by unfold AnT; rw [if_neg h5, if_pos h4]; exact ⟨_, hc, Or.inr ⟨u, rfl, hg⟩⟩⟩
    rcases (by omega : w = 0 ∨ w = 1) with rfl | rfl
    · exact an_end0_79 γ h4 h5 hT hP hO hl hk hf hd
    · exact an_end1_79 γ h4 h5 hT hP hO hl hk hf hd
theorem b_any079 (γ : GE) {b : Bool} {J : AJ} {T : Nat → Int32} {n N i0 r q : Nat} {l : Cd} {X0 : AI} (hC : CnC79 γ b T n N r) (hq : q + r = 8) (hT : Tkn T n N X0) (hP : PsO T n N X0 i0) (hO : OuO X0 79 l) (hl : l.length ≤ i0) : Ct γ mX5_readAny (4 + 2 * r) 0 0 [.ref 95, .int (nI q)] (SS b true) X0 J (fun rt S' I' J' => (SS b true) = S' ∧ J = J' ∧ ∃ res, An T n (Cn T n r) i0 res ∧ RsO T n N 79 X0 l res rt I') := by
  refine ct_of okX5_readAny (L := [some (.ref 95), some (.int (nI q)), none, none, none, none]) (Nat.le_of_ble_eq_true rfl) rfl ?_
  refine r_run okX5_readAny 2 (cs := []) (σ' := (2, [some (.ref 95), some (.int (nI q)), none, none, none, none], [.int (nI q), .ref 95], (SS b true), X0, J, 0, 0)) rfl trivial ?_
  refine r_callV okX5_readAny okX5_readCondition [.int (nI q)] [] 95 rfl rfl rfl kkX5_readCondition rfl rfl (by decide) rfl rfl rfl (by omega) ⟨Nat.le_refl _, Nat.le_refl _⟩ (Nat.le_of_ble_eq_true rfl) (hC X0 J i0 q l hq hT hP hO hl) (fun v1 S1 I1 J1 hp => ?_)
  obtain ⟨rfl, rfl, res, hc, hfr, hr⟩ := hp
  obtain ⟨Xu, eXu⟩ : ∃ z, z = I1 := ⟨_, rfl⟩
  subst eXu
  cases res with
  | inl e =>
    obtain ⟨rfl, gF, gE⟩ := hr
    show Rj _ _ _ _ _ _ (5, [some (.ref 95), some (.int (nI q)), none, none, none, none], [.int 0], (SS b true), Xu, J, 0, 0)
    refine r_run okX5_readAny 7 (cs := []) (σ' := (16, [some (.ref 95), some (.int (nI q)), some (.int 0), some (.int 0), some (.int 0), none], [.int 800, .int 0], (SS b true), Xu, J, 0, 0)) rfl trivial ?_
    refine r_icmp okX5_readAny rfl (fun (h16 : (800 : Int32) ≤ (0 : Int32)) => ?_) (fun (h16 : ¬ (800 : Int32) ≤ (0 : Int32)) => ?_)
    · exact absurd h16 (by decide)
    · refine r_run okX5_readAny 1 (cs := []) (σ' := (20, [some (.ref 95), some (.int (nI q)), some (.int 0), some (.int 0), some (.int 0), none], [.int 0], (SS b true), Xu, J, 0, 0)) rfl trivial ?_
      refine r_ifc okX5_readAny rfl (fun (h20 : (0 : Int32) = (0 : Int32)) => ?_) (fun (h20 : ¬ (0 : Int32) = (0 : Int32)) => ?_)
      · refine r_run okX5_readAny 1 (cs := []) (σ' := (110, [some (.ref 95), some (.int (nI q)), some (.int 0), some (.int 0), some (.int 0), none], [.int 0], (SS b true), Xu, J, 0, 0)) rfl trivial ?_
        refine r_ifc okX5_readAny rfl (fun (h110 : (0 : Int32) = (0 : Int32)) => ?_) (fun (h110 : ¬ (0 : Int32) = (0 : Int32)) => ?_)
        · refine r_run okX5_readAny 1 (cs := []) (σ' := (124, [some (.ref 95), some (.int (nI q)), some (.int 0), some (.int 0), some (.int 0), none], [.int 0], (SS b true), Xu, J, 0, 0)) rfl trivial ?_
          refine r_iret okX5_readAny rfl rfl (by decide +kernel) (Nat.le_refl _) (Nat.le_refl _) ?_
          exact ⟨rfl, rfl, .inl e, ⟨_, hc, Or.inl ⟨e, rfl, rfl⟩⟩, hfr, rfl, gF, gE⟩
        · exact absurd h110 (by decide)
      · exact absurd h20 (by decide)
  | inr u =>
    obtain ⟨rfl, gP, gO⟩ := hr
    have hq1 := Cn_len hc
    have hq3 := len_flt u.1
    show Rj _ _ _ _ _ _ (5, [some (.ref 95), some (.int (nI q)), none, none, none, none], [.int 1], (SS b true), Xu, J, 0, 0)
    refine r_run okX5_readAny 5 (cs := []) (σ' := (11, [some (.ref 95), some (.int (nI q)), some (.int 1), some (.int 0), some (.int 0), none], [], (SS b true), Xu, J, 0, 0)) rfl trivial ?_
    have z := lp_an79 γ (b := b) (J := J) (T := T) (n := n) (N := N) (i0 := i0) (r := r) (q := q) (l := l) (X0 := X0) hC hq N u.2 0 0 u.1 Xu (by omega) (by omega) (Tkn_k (A := 79) (by decide) hfr hT) gP gO (by simp only [List.length_append, List.length_cons, List.length_nil] at *; omega) (by omega) hfr (fun res hr => ⟨_, hc, Or.inr ⟨u, rfl, hr⟩⟩)
    rw [nI_0] at z
    exact z
theorem b_any79 (γ : GE) (b : Bool) (T : Nat → Int32) (n N r : Nat) (hC : CnC79 γ b T n N r) : AnC79 γ b T n N r := fun X J i q l hq hT hP hO hl => b_any079 γ hC hq hT hP hO hl
theorem b_cm79 (γ : GE) {b : Bool} {J : AJ} {T : Nat → Int32} {n N i r q : Nat} {l : Cd} {X : AI} (hT : Tkn T n N X) (hP : PsO T n N X i) (hO : OuO X 79 l) (hl : l.length ≤ i) (k6 : ¬ kK T n i = 6) (k40 : ¬ kK T n i = 40) : Ct γ mX5_readCondition (3 + 2 * r) 0 0 [.ref 95, .int (nI q)] (SS b true) X J (fun rt S' I' J' => (SS b true) = S' ∧ J = J' ∧ ∃ res, Cm T n i res ∧ RsO T n N 79 X l res rt I') := by
  have hN := hT.1
  have hiN := hP.1
  have e7 := hP.2.2.1
  refine ct_of okX5_readCondition (L := [some (.ref 95), some (.int (nI q)), none, none]) (Nat.le_of_ble_eq_true rfl) rfl ?_
  refine r_run okX5_readCondition 3 (cs := []) (σ' := (6, [some (.ref 95), some (.int (nI q)), none, none], [.int 6, .int (X 95 7)], (SS b true), X, J, 0, 0)) rfl trivial ?_
  simp only [e7]
  show Rj _ _ _ _ _ _ (6, [some (.ref 95), some (.int (nI q)), none, none], [.int 6, .int (kK T n i)], (SS b true), X, J, 0, 0)
  refine r_icmp okX5_readCondition rfl (fun (h6 : ¬ (kK T n i) = (6 : Int32)) => ?_) (fun h60 => ?_)
  · refine r_run okX5_readCondition 3 (cs := []) (σ' := (16, [some (.ref 95), some (.int (nI q)), some (.int 0), none], [.int 0], (SS b true), X, J, 0, 0)) rfl trivial ?_
    refine r_ifc okX5_readCondition rfl (fun (h16 : ¬ (0 : Int32) = (0 : Int32)) => ?_) (fun h160 => ?_)
    · exact absurd h16 (by decide)
    · have h16 : (0 : Int32) = (0 : Int32) := Classical.not_not.mp h160
      refine r_run okX5_readCondition 3 (cs := []) (σ' := (25, [some (.ref 95), some (.int (nI q)), some (.int 0), none], [.int 40, .int (X 95 7)], (SS b true), X, J, 0, 0)) rfl trivial ?_
      simp only [e7]
      show Rj _ _ _ _ _ _ (25, [some (.ref 95), some (.int (nI q)), some (.int 0), none], [.int 40, .int (kK T n i)], (SS b true), X, J, 0, 0)
      refine r_icmp okX5_readCondition rfl (fun (h25 : ¬ (kK T n i) = (40 : Int32)) => ?_) (fun h250 => ?_)
      · refine r_run okX5_readCondition 1 (cs := []) (σ' := (105, [some (.ref 95), some (.int (nI q)), some (.int 0), none], [.ref 95], (SS b true), X, J, 0, 0)) rfl trivial ?_
        refine r_callV okX5_readCondition okX5_readSum [] [] 95 rfl rfl rfl kkX5_readSum rfl rfl (by decide) rfl rfl rfl (by omega) ⟨Nat.le_refl _, Nat.le_refl _⟩ (Nat.le_of_ble_eq_true rfl) (b_sum79 γ hT hP hO hl) (fun v1 S1 I1 J1 hp => ?_)
        obtain ⟨rfl, rfl, res, hc, hfr, hr⟩ := hp
        obtain ⟨Xu, eXu⟩ : ∃ z, z = I1 := ⟨_, rfl⟩
        subst eXu
        cases res with
        | inl e =>
          obtain ⟨rfl, gF, gE⟩ := hr
          show Rj _ _ _ _ _ _ (108, [some (.ref 95), some (.int (nI q)), some (.int 0), none], [.int 0], (SS b true), Xu, J, 0, 0)
          refine r_ifc okX5_readCondition rfl (fun (h108 : ¬ (0 : Int32) = (0 : Int32)) => ?_) (fun h1080 => ?_)
          · exact absurd h108 (by decide)
          · have h108 : (0 : Int32) = (0 : Int32) := Classical.not_not.mp h1080
            refine r_run okX5_readCondition 1 (cs := []) (σ' := (112, [some (.ref 95), some (.int (nI q)), some (.int 0), none], [.int 0], (SS b true), Xu, J, 0, 0)) rfl trivial ?_
            refine r_iret okX5_readCondition rfl rfl (by decide +kernel) (Nat.le_refl _) (Nat.le_refl _) ?_
            exact ⟨rfl, rfl, .inl e, ⟨_, hc, Or.inl ⟨e, rfl, rfl⟩⟩, hfr, rfl, gF, gE⟩
        | inr u =>
          obtain ⟨rfl, gP, gO⟩ := hr
          have hu1 := Sm_len hc
          have hu3 := len_flt u.1
          have hu2 := gP.1
          have hTu : Tkn T n N Xu := Tkn_k (A := 79) (by decide) hfr hT
          by_cases hk : kK T n u.2 = 60
          · have e7u : Xu 95 7 = 60 := gP.2.2.1.trans hk
            have hcm : isCm (kK T n u.2) = true := by rw [hk]; rfl
            have hi : u.2 < N := kK_lt hTu hu2 (by rw [hk]; decide)
            show Rj _ _ _ _ _ _ (108, [some (.ref 95), some (.int (nI q)), some (.int 0), none], [.int 1], (SS b true), Xu, J, 0, 0)
            refine r_ifc okX5_readCondition rfl (fun (h108_1 : ¬ (1 : Int32) = (0 : Int32)) => ?_) (fun h108_10 => ?_)
            · refine r_run okX5_readCondition 5 (cs := []) (σ' := (121, [some (.ref 95), some (.int (nI q)), some (.int 0), some (.int (Xu 95 7))], [.int 60, .int (Xu 95 7)], (SS b true), Xu, J, 0, 0)) rfl trivial ?_
              simp only [e7u]
              show Rj _ _ _ _ _ _ (121, [some (.ref 95), some (.int (nI q)), some (.int 0), some (.int 60)], [.int 60, .int 60], (SS b true), Xu, J, 0, 0)
              refine r_icmp okX5_readCondition rfl (fun (h121 : (60 : Int32) = (60 : Int32)) => ?_) (fun (h121 : ¬ (60 : Int32) = (60 : Int32)) => ?_)
              · refine r_run okX5_readCondition 1 (cs := []) (σ' := (143, [some (.ref 95), some (.int (nI q)), some (.int 0), some (.int 60)], [.ref 95], (SS b true), Xu, J, 0, 0)) rfl trivial ?_
                refine r_callV okX5_readCondition okX5_advance [] [] 95 rfl rfl rfl kkX5_advance rfl rfl (by decide) rfl rfl rfl (by omega) ⟨Nat.le_refl _, Nat.le_refl _⟩ (Nat.le_of_ble_eq_true rfl) (b_adv79 γ hTu gP hi) (fun v1 S1 I1 J1 hp => ?_)
                obtain ⟨rfl, rfl, ⟨fXa, pXa⟩, rfl⟩ := hp
                obtain ⟨Xa, eXa⟩ : ∃ z, z = I1 := ⟨_, rfl⟩
                subst eXa
                have hTa : Tkn T n N Xa := Tkn_k (A := 79) (by decide) (f9_X fXa) hTu
                have hOa := OuO_9 (by decide) fXa gO
                have hfa : fr (qX 79) X Xa := fr_t hfr (f9_X fXa)
                show Rj _ _ _ _ _ _ (146, [some (.ref 95), some (.int (nI q)), some (.int 0), some (.int 60)], [], (SS b true), Xa, J, 0, 0)
                refine r_run okX5_readCondition 1 (cs := []) (σ' := (147, [some (.ref 95), some (.int (nI q)), some (.int 0), some (.int 60)], [.ref 95], (SS b true), Xa, J, 0, 0)) rfl trivial ?_
                refine r_callV okX5_readCondition okX5_readSum [] [] 95 rfl rfl rfl kkX5_readSum rfl rfl (by decide) rfl rfl rfl (by omega) ⟨Nat.le_refl _, Nat.le_refl _⟩ (Nat.le_of_ble_eq_true rfl) (b_sum79 γ hTa pXa hOa (by simp only [List.length_append, List.length_cons, List.length_nil] at *; omega)) (fun v1 S1 I1 J1 hp => ?_)
                obtain ⟨rfl, rfl, res2, hc2, hfr2, hr2⟩ := hp
                obtain ⟨Xv, eXv⟩ : ∃ z, z = I1 := ⟨_, rfl⟩
                subst eXv
                cases res2 with
                | inl e =>
                  obtain ⟨rfl, gF, gE⟩ := hr2
                  show Rj _ _ _ _ _ _ (150, [some (.ref 95), some (.int (nI q)), some (.int 0), some (.int 60)], [.int 0], (SS b true), Xv, J, 0, 0)
                  refine r_ifc okX5_readCondition rfl (fun (h150 : (0 : Int32) = (0 : Int32)) => ?_) (fun (h150 : ¬ (0 : Int32) = (0 : Int32)) => ?_)
                  · refine r_run okX5_readCondition 1 (cs := []) (σ' := (170, [some (.ref 95), some (.int (nI q)), some (.int 0), some (.int 60)], [.int 0], (SS b true), Xv, J, 0, 0)) rfl trivial ?_
                    refine r_iret okX5_readCondition rfl rfl (by decide +kernel) (Nat.le_refl _) (Nat.le_refl _) ?_
                    exact ⟨rfl, rfl, .inl e, ⟨_, hc, Or.inr ⟨u, rfl, Or.inr ⟨hcm, _, hc2, Or.inl ⟨e, rfl, rfl⟩⟩⟩⟩, fr_t hfa hfr2, rfl, gF, gE⟩
                  · exact absurd h150 (by decide)
                | inr v =>
                  obtain ⟨rfl, gP2, gO2⟩ := hr2
                  have hv1 := Sm_len hc2
                  have hv3 := len_flt v.1
                  have hv2 := gP2.1
                  show Rj _ _ _ _ _ _ (150, [some (.ref 95), some (.int (nI q)), some (.int 0), some (.int 60)], [.int 1], (SS b true), Xv, J, 0, 0)
                  refine r_ifc okX5_readCondition rfl (fun (h150_1 : (1 : Int32) = (0 : Int32)) => ?_) (fun (h150_1 : ¬ (1 : Int32) = (0 : Int32)) => ?_)
                  · exact absurd h150_1 (by decide)
                  · refine r_run okX5_readCondition 4 (cs := []) (σ' := (159, [some (.ref 95), some (.int (nI q)), some (.int 0), some (.int 60)], [.int 0, .int 60, .ref 79], (SS b true), Xv, J, 0, 0)) rfl trivial ?_
                    refine r_callV okX5_readCondition okX6_add [.int 60, .int 0] [] 79 rfl rfl rfl kkX6_add rfl rfl (by decide) rfl rfl rfl (by omega) ⟨Nat.le_refl _, Nat.le_refl _⟩ (Nat.le_of_ble_eq_true rfl) (a_add79 γ gO2 (by simp only [List.length_append, List.length_cons, List.length_nil] at *; omega) (p := (6, 0)) rfl) (fun v1 S1 I1 J1 hp => ?_)
                    obtain ⟨rfl, rfl, ⟨fXg, oXg⟩, rfl⟩ := hp
                    obtain ⟨Xg, eXg⟩ : ∃ z, z = I1 := ⟨_, rfl⟩
                    subst eXg
                    show Rj _ _ _ _ _ _ (162, [some (.ref 95), some (.int (nI q)), some (.int 0), some (.int 60)], [.int 1], (SS b true), Xg, J, 0, 0)
                    refine r_ifc okX5_readCondition rfl (fun (h162 : (1 : Int32) = (0 : Int32)) => ?_) (fun (h162 : ¬ (1 : Int32) = (0 : Int32)) => ?_)
                    · exact absurd h162 (by decide)
                    · refine r_run okX5_readCondition 2 (cs := []) (σ' := (170, [some (.ref 95), some (.int (nI q)), some (.int 0), some (.int 60)], [.int 1], (SS b true), Xg, J, 0, 0)) rfl trivial ?_
                      refine r_iret okX5_readCondition rfl rfl (by decide +kernel) (Nat.le_refl _) (Nat.le_refl _) ?_
                      refine ⟨rfl, rfl, .inr (u.1 ++ v.1 ++ [(cmO (kK T n u.2), 0)], v.2), ⟨_, hc, Or.inr ⟨u, rfl, Or.inr ⟨hcm, _, hc2, Or.inr ⟨v, rfl, rfl⟩⟩⟩⟩, fr_t (fr_t hfa hfr2) (fA_X fXg), rfl, PsO_k (A := 79) (by decide) fXg gP2, ?_⟩
                      rw [hk, show cmO 60 = 6 from rfl]
                      show OuO Xg 79 (l ++ (u.1 ++ v.1 ++ [(6, 0)]))
                      rw [show l ++ (u.1 ++ v.1 ++ [((6 : Int32), (0 : Int32))]) = l ++ u.1 ++ v.1 ++ [(6, 0)] by simp only [List.append_assoc]]
                      exact oXg
              · exact absurd h121 (by decide)
            · have h108_1 : (1 : Int32) = (0 : Int32) := Classical.not_not.mp h108_10
              exact absurd h108_1 (by decide)
          have m60 := hk
          clear hk
          by_cases hk : kK T n u.2 = 61
          · have e7u : Xu 95 7 = 61 := gP.2.2.1.trans hk
            have hcm : isCm (kK T n u.2) = true := by rw [hk]; rfl
            have hi : u.2 < N := kK_lt hTu hu2 (by rw [hk]; decide)
            show Rj _ _ _ _ _ _ (108, [some (.ref 95), some (.int (nI q)), some (.int 0), none], [.int 1], (SS b true), Xu, J, 0, 0)
            refine r_ifc okX5_readCondition rfl (fun (h108_2 : ¬ (1 : Int32) = (0 : Int32)) => ?_) (fun h108_20 => ?_)
            · refine r_run okX5_readCondition 5 (cs := []) (σ' := (121, [some (.ref 95), some (.int (nI q)), some (.int 0), some (.int (Xu 95 7))], [.int 60, .int (Xu 95 7)], (SS b true), Xu, J, 0, 0)) rfl trivial ?_
              simp only [e7u]
              show Rj _ _ _ _ _ _ (121, [some (.ref 95), some (.int (nI q)), some (.int 0), some (.int 61)], [.int 60, .int 61], (SS b true), Xu, J, 0, 0)
              refine r_icmp okX5_readCondition rfl (fun (h121_1 : (61 : Int32) = (60 : Int32)) => ?_) (fun (h121_1 : ¬ (61 : Int32) = (60 : Int32)) => ?_)
              · exact absurd h121_1 (by decide)
              · refine r_run okX5_readCondition 2 (cs := []) (σ' := (127, [some (.ref 95), some (.int (nI q)), some (.int 0), some (.int 61)], [.int 61, .int 61], (SS b true), Xu, J, 0, 0)) rfl trivial ?_
                refine r_icmp okX5_readCondition rfl (fun (h127 : (61 : Int32) = (61 : Int32)) => ?_) (fun (h127 : ¬ (61 : Int32) = (61 : Int32)) => ?_)
                · refine r_run okX5_readCondition 1 (cs := []) (σ' := (143, [some (.ref 95), some (.int (nI q)), some (.int 0), some (.int 61)], [.ref 95], (SS b true), Xu, J, 0, 0)) rfl trivial ?_
                  refine r_callV okX5_readCondition okX5_advance [] [] 95 rfl rfl rfl kkX5_advance rfl rfl (by decide) rfl rfl rfl (by omega) ⟨Nat.le_refl _, Nat.le_refl _⟩ (Nat.le_of_ble_eq_true rfl) (b_adv79 γ hTu gP hi) (fun v1 S1 I1 J1 hp => ?_)
                  obtain ⟨rfl, rfl, ⟨fXa, pXa⟩, rfl⟩ := hp
                  obtain ⟨Xa, eXa⟩ : ∃ z, z = I1 := ⟨_, rfl⟩
                  subst eXa
                  have hTa : Tkn T n N Xa := Tkn_k (A := 79) (by decide) (f9_X fXa) hTu
                  have hOa := OuO_9 (by decide) fXa gO
                  have hfa : fr (qX 79) X Xa := fr_t hfr (f9_X fXa)
                  show Rj _ _ _ _ _ _ (146, [some (.ref 95), some (.int (nI q)), some (.int 0), some (.int 61)], [], (SS b true), Xa, J, 0, 0)
                  refine r_run okX5_readCondition 1 (cs := []) (σ' := (147, [some (.ref 95), some (.int (nI q)), some (.int 0), some (.int 61)], [.ref 95], (SS b true), Xa, J, 0, 0)) rfl trivial ?_
                  refine r_callV okX5_readCondition okX5_readSum [] [] 95 rfl rfl rfl kkX5_readSum rfl rfl (by decide) rfl rfl rfl (by omega) ⟨Nat.le_refl _, Nat.le_refl _⟩ (Nat.le_of_ble_eq_true rfl) (b_sum79 γ hTa pXa hOa (by simp only [List.length_append, List.length_cons, List.length_nil] at *; omega)) (fun v1 S1 I1 J1 hp => ?_)
                  obtain ⟨rfl, rfl, res2, hc2, hfr2, hr2⟩ := hp
                  obtain ⟨Xv, eXv⟩ : ∃ z, z = I1 := ⟨_, rfl⟩
                  subst eXv
                  cases res2 with
                  | inl e =>
                    obtain ⟨rfl, gF, gE⟩ := hr2
                    show Rj _ _ _ _ _ _ (150, [some (.ref 95), some (.int (nI q)), some (.int 0), some (.int 61)], [.int 0], (SS b true), Xv, J, 0, 0)
                    refine r_ifc okX5_readCondition rfl (fun (h150_2 : (0 : Int32) = (0 : Int32)) => ?_) (fun (h150_2 : ¬ (0 : Int32) = (0 : Int32)) => ?_)
                    · refine r_run okX5_readCondition 1 (cs := []) (σ' := (170, [some (.ref 95), some (.int (nI q)), some (.int 0), some (.int 61)], [.int 0], (SS b true), Xv, J, 0, 0)) rfl trivial ?_
                      refine r_iret okX5_readCondition rfl rfl (by decide +kernel) (Nat.le_refl _) (Nat.le_refl _) ?_
                      exact ⟨rfl, rfl, .inl e, ⟨_, hc, Or.inr ⟨u, rfl, Or.inr ⟨hcm, _, hc2, Or.inl ⟨e, rfl, rfl⟩⟩⟩⟩, fr_t hfa hfr2, rfl, gF, gE⟩
                    · exact absurd h150_2 (by decide)
                  | inr v =>
                    obtain ⟨rfl, gP2, gO2⟩ := hr2
                    have hv1 := Sm_len hc2
                    have hv3 := len_flt v.1
                    have hv2 := gP2.1
                    show Rj _ _ _ _ _ _ (150, [some (.ref 95), some (.int (nI q)), some (.int 0), some (.int 61)], [.int 1], (SS b true), Xv, J, 0, 0)
                    refine r_ifc okX5_readCondition rfl (fun (h150_3 : (1 : Int32) = (0 : Int32)) => ?_) (fun (h150_3 : ¬ (1 : Int32) = (0 : Int32)) => ?_)
                    · exact absurd h150_3 (by decide)
                    · refine r_run okX5_readCondition 4 (cs := []) (σ' := (159, [some (.ref 95), some (.int (nI q)), some (.int 0), some (.int 61)], [.int 0, .int 61, .ref 79], (SS b true), Xv, J, 0, 0)) rfl trivial ?_
                      refine r_callV okX5_readCondition okX6_add [.int 61, .int 0] [] 79 rfl rfl rfl kkX6_add rfl rfl (by decide) rfl rfl rfl (by omega) ⟨Nat.le_refl _, Nat.le_refl _⟩ (Nat.le_of_ble_eq_true rfl) (a_add79 γ gO2 (by simp only [List.length_append, List.length_cons, List.length_nil] at *; omega) (p := (7, 0)) rfl) (fun v1 S1 I1 J1 hp => ?_)
                      obtain ⟨rfl, rfl, ⟨fXg, oXg⟩, rfl⟩ := hp
                      obtain ⟨Xg, eXg⟩ : ∃ z, z = I1 := ⟨_, rfl⟩
                      subst eXg
                      show Rj _ _ _ _ _ _ (162, [some (.ref 95), some (.int (nI q)), some (.int 0), some (.int 61)], [.int 1], (SS b true), Xg, J, 0, 0)
                      refine r_ifc okX5_readCondition rfl (fun (h162_1 : (1 : Int32) = (0 : Int32)) => ?_) (fun (h162_1 : ¬ (1 : Int32) = (0 : Int32)) => ?_)
                      · exact absurd h162_1 (by decide)
                      · refine r_run okX5_readCondition 2 (cs := []) (σ' := (170, [some (.ref 95), some (.int (nI q)), some (.int 0), some (.int 61)], [.int 1], (SS b true), Xg, J, 0, 0)) rfl trivial ?_
                        refine r_iret okX5_readCondition rfl rfl (by decide +kernel) (Nat.le_refl _) (Nat.le_refl _) ?_
                        refine ⟨rfl, rfl, .inr (u.1 ++ v.1 ++ [(cmO (kK T n u.2), 0)], v.2), ⟨_, hc, Or.inr ⟨u, rfl, Or.inr ⟨hcm, _, hc2, Or.inr ⟨v, rfl, rfl⟩⟩⟩⟩, fr_t (fr_t hfa hfr2) (fA_X fXg), rfl, PsO_k (A := 79) (by decide) fXg gP2, ?_⟩
                        rw [hk, show cmO 61 = 7 from rfl]
                        show OuO Xg 79 (l ++ (u.1 ++ v.1 ++ [(7, 0)]))
                        rw [show l ++ (u.1 ++ v.1 ++ [((7 : Int32), (0 : Int32))]) = l ++ u.1 ++ v.1 ++ [(7, 0)] by simp only [List.append_assoc]]
                        exact oXg
                · exact absurd h127 (by decide)
            · have h108_2 : (1 : Int32) = (0 : Int32) := Classical.not_not.mp h108_20
              exact absurd h108_2 (by decide)
          have m61 := hk
          clear hk
          by_cases hk : kK T n u.2 = 62
          · have e7u : Xu 95 7 = 62 := gP.2.2.1.trans hk
            have hcm : isCm (kK T n u.2) = true := by rw [hk]; rfl
            have hi : u.2 < N := kK_lt hTu hu2 (by rw [hk]; decide)
            show Rj _ _ _ _ _ _ (108, [some (.ref 95), some (.int (nI q)), some (.int 0), none], [.int 1], (SS b true), Xu, J, 0, 0)
            refine r_ifc okX5_readCondition rfl (fun (h108_3 : ¬ (1 : Int32) = (0 : Int32)) => ?_) (fun h108_30 => ?_)
            · refine r_run okX5_readCondition 5 (cs := []) (σ' := (121, [some (.ref 95), some (.int (nI q)), some (.int 0), some (.int (Xu 95 7))], [.int 60, .int (Xu 95 7)], (SS b true), Xu, J, 0, 0)) rfl trivial ?_
              simp only [e7u]
              show Rj _ _ _ _ _ _ (121, [some (.ref 95), some (.int (nI q)), some (.int 0), some (.int 62)], [.int 60, .int 62], (SS b true), Xu, J, 0, 0)
              refine r_icmp okX5_readCondition rfl (fun (h121_2 : (62 : Int32) = (60 : Int32)) => ?_) (fun (h121_2 : ¬ (62 : Int32) = (60 : Int32)) => ?_)
              · exact absurd h121_2 (by decide)
              · refine r_run okX5_readCondition 2 (cs := []) (σ' := (127, [some (.ref 95), some (.int (nI q)), some (.int 0), some (.int 62)], [.int 61, .int 62], (SS b true), Xu, J, 0, 0)) rfl trivial ?_
                refine r_icmp okX5_readCondition rfl (fun (h127_1 : (62 : Int32) = (61 : Int32)) => ?_) (fun (h127_1 : ¬ (62 : Int32) = (61 : Int32)) => ?_)
                · exact absurd h127_1 (by decide)
                · refine r_run okX5_readCondition 2 (cs := []) (σ' := (133, [some (.ref 95), some (.int (nI q)), some (.int 0), some (.int 62)], [.int 62, .int 62], (SS b true), Xu, J, 0, 0)) rfl trivial ?_
                  refine r_icmp okX5_readCondition rfl (fun (h133 : (62 : Int32) = (62 : Int32)) => ?_) (fun (h133 : ¬ (62 : Int32) = (62 : Int32)) => ?_)
                  · refine r_run okX5_readCondition 1 (cs := []) (σ' := (143, [some (.ref 95), some (.int (nI q)), some (.int 0), some (.int 62)], [.ref 95], (SS b true), Xu, J, 0, 0)) rfl trivial ?_
                    refine r_callV okX5_readCondition okX5_advance [] [] 95 rfl rfl rfl kkX5_advance rfl rfl (by decide) rfl rfl rfl (by omega) ⟨Nat.le_refl _, Nat.le_refl _⟩ (Nat.le_of_ble_eq_true rfl) (b_adv79 γ hTu gP hi) (fun v1 S1 I1 J1 hp => ?_)
                    obtain ⟨rfl, rfl, ⟨fXa, pXa⟩, rfl⟩ := hp
                    obtain ⟨Xa, eXa⟩ : ∃ z, z = I1 := ⟨_, rfl⟩
                    subst eXa
                    have hTa : Tkn T n N Xa := Tkn_k (A := 79) (by decide) (f9_X fXa) hTu
                    have hOa := OuO_9 (by decide) fXa gO
                    have hfa : fr (qX 79) X Xa := fr_t hfr (f9_X fXa)
                    show Rj _ _ _ _ _ _ (146, [some (.ref 95), some (.int (nI q)), some (.int 0), some (.int 62)], [], (SS b true), Xa, J, 0, 0)
                    refine r_run okX5_readCondition 1 (cs := []) (σ' := (147, [some (.ref 95), some (.int (nI q)), some (.int 0), some (.int 62)], [.ref 95], (SS b true), Xa, J, 0, 0)) rfl trivial ?_
                    refine r_callV okX5_readCondition okX5_readSum [] [] 95 rfl rfl rfl kkX5_readSum rfl rfl (by decide) rfl rfl rfl (by omega) ⟨Nat.le_refl _, Nat.le_refl _⟩ (Nat.le_of_ble_eq_true rfl) (b_sum79 γ hTa pXa hOa (by simp only [List.length_append, List.length_cons, List.length_nil] at *; omega)) (fun v1 S1 I1 J1 hp => ?_)
                    obtain ⟨rfl, rfl, res2, hc2, hfr2, hr2⟩ := hp
                    obtain ⟨Xv, eXv⟩ : ∃ z, z = I1 := ⟨_, rfl⟩
                    subst eXv
                    cases res2 with
                    | inl e =>
                      obtain ⟨rfl, gF, gE⟩ := hr2
                      show Rj _ _ _ _ _ _ (150, [some (.ref 95), some (.int (nI q)), some (.int 0), some (.int 62)], [.int 0], (SS b true), Xv, J, 0, 0)
                      refine r_ifc okX5_readCondition rfl (fun (h150_4 : (0 : Int32) = (0 : Int32)) => ?_) (fun (h150_4 : ¬ (0 : Int32) = (0 : Int32)) => ?_)
                      · refine r_run okX5_readCondition 1 (cs := []) (σ' := (170, [some (.ref 95), some (.int (nI q)), some (.int 0), some (.int 62)], [.int 0], (SS b true), Xv, J, 0, 0)) rfl trivial ?_
                        refine r_iret okX5_readCondition rfl rfl (by decide +kernel) (Nat.le_refl _) (Nat.le_refl _) ?_
                        exact ⟨rfl, rfl, .inl e, ⟨_, hc, Or.inr ⟨u, rfl, Or.inr ⟨hcm, _, hc2, Or.inl ⟨e, rfl, rfl⟩⟩⟩⟩, fr_t hfa hfr2, rfl, gF, gE⟩
                      · exact absurd h150_4 (by decide)
                    | inr v =>
                      obtain ⟨rfl, gP2, gO2⟩ := hr2
                      have hv1 := Sm_len hc2
                      have hv3 := len_flt v.1
                      have hv2 := gP2.1
                      show Rj _ _ _ _ _ _ (150, [some (.ref 95), some (.int (nI q)), some (.int 0), some (.int 62)], [.int 1], (SS b true), Xv, J, 0, 0)
                      refine r_ifc okX5_readCondition rfl (fun (h150_5 : (1 : Int32) = (0 : Int32)) => ?_) (fun (h150_5 : ¬ (1 : Int32) = (0 : Int32)) => ?_)
                      · exact absurd h150_5 (by decide)
                      · refine r_run okX5_readCondition 4 (cs := []) (σ' := (159, [some (.ref 95), some (.int (nI q)), some (.int 0), some (.int 62)], [.int 0, .int 62, .ref 79], (SS b true), Xv, J, 0, 0)) rfl trivial ?_
                        refine r_callV okX5_readCondition okX6_add [.int 62, .int 0] [] 79 rfl rfl rfl kkX6_add rfl rfl (by decide) rfl rfl rfl (by omega) ⟨Nat.le_refl _, Nat.le_refl _⟩ (Nat.le_of_ble_eq_true rfl) (a_add79 γ gO2 (by simp only [List.length_append, List.length_cons, List.length_nil] at *; omega) (p := (8, 0)) rfl) (fun v1 S1 I1 J1 hp => ?_)
                        obtain ⟨rfl, rfl, ⟨fXg, oXg⟩, rfl⟩ := hp
                        obtain ⟨Xg, eXg⟩ : ∃ z, z = I1 := ⟨_, rfl⟩
                        subst eXg
                        show Rj _ _ _ _ _ _ (162, [some (.ref 95), some (.int (nI q)), some (.int 0), some (.int 62)], [.int 1], (SS b true), Xg, J, 0, 0)
                        refine r_ifc okX5_readCondition rfl (fun (h162_2 : (1 : Int32) = (0 : Int32)) => ?_) (fun (h162_2 : ¬ (1 : Int32) = (0 : Int32)) => ?_)
                        · exact absurd h162_2 (by decide)
                        · refine r_run okX5_readCondition 2 (cs := []) (σ' := (170, [some (.ref 95), some (.int (nI q)), some (.int 0), some (.int 62)], [.int 1], (SS b true), Xg, J, 0, 0)) rfl trivial ?_
                          refine r_iret okX5_readCondition rfl rfl (by decide +kernel) (Nat.le_refl _) (Nat.le_refl _) ?_
                          refine ⟨rfl, rfl, .inr (u.1 ++ v.1 ++ [(cmO (kK T n u.2), 0)], v.2), ⟨_, hc, Or.inr ⟨u, rfl, Or.inr ⟨hcm, _, hc2, Or.inr ⟨v, rfl, rfl⟩⟩⟩⟩, fr_t (fr_t hfa hfr2) (fA_X fXg), rfl, PsO_k (A := 79) (by decide) fXg gP2, ?_⟩
                          rw [hk, show cmO 62 = 8 from rfl]
                          show OuO Xg 79 (l ++ (u.1 ++ v.1 ++ [(8, 0)]))
                          rw [show l ++ (u.1 ++ v.1 ++ [((8 : Int32), (0 : Int32))]) = l ++ u.1 ++ v.1 ++ [(8, 0)] by simp only [List.append_assoc]]
                          exact oXg
                  · exact absurd h133 (by decide)
            · have h108_3 : (1 : Int32) = (0 : Int32) := Classical.not_not.mp h108_30
              exact absurd h108_3 (by decide)
          have m62 := hk
          clear hk
          have e7u := gP.2.2.1
          have hcm : isCm (kK T n u.2) = false := by unfold isCm; rw [decide_eq_false m60, decide_eq_false m61, decide_eq_false m62]; rfl
          show Rj _ _ _ _ _ _ (108, [some (.ref 95), some (.int (nI q)), some (.int 0), none], [.int 1], (SS b true), Xu, J, 0, 0)
          refine r_ifc okX5_readCondition rfl (fun (h108_4 : ¬ (1 : Int32) = (0 : Int32)) => ?_) (fun h108_40 => ?_)
          · refine r_run okX5_readCondition 5 (cs := []) (σ' := (121, [some (.ref 95), some (.int (nI q)), some (.int 0), some (.int (Xu 95 7))], [.int 60, .int (Xu 95 7)], (SS b true), Xu, J, 0, 0)) rfl trivial ?_
            simp only [e7u]
            show Rj _ _ _ _ _ _ (121, [some (.ref 95), some (.int (nI q)), some (.int 0), some (.int (kK T n u.2))], [.int 60, .int (kK T n u.2)], (SS b true), Xu, J, 0, 0)
            refine r_icmp okX5_readCondition rfl (fun (h121_3 : (kK T n u.2) = (60 : Int32)) => ?_) (fun (h121_3 : ¬ (kK T n u.2) = (60 : Int32)) => ?_)
            · exact absurd h121_3 m60
            · refine r_run okX5_readCondition 2 (cs := []) (σ' := (127, [some (.ref 95), some (.int (nI q)), some (.int 0), some (.int (kK T n u.2))], [.int 61, .int (kK T n u.2)], (SS b true), Xu, J, 0, 0)) rfl trivial ?_
              refine r_icmp okX5_readCondition rfl (fun (h127_2 : (kK T n u.2) = (61 : Int32)) => ?_) (fun (h127_2 : ¬ (kK T n u.2) = (61 : Int32)) => ?_)
              · exact absurd h127_2 m61
              · refine r_run okX5_readCondition 2 (cs := []) (σ' := (133, [some (.ref 95), some (.int (nI q)), some (.int 0), some (.int (kK T n u.2))], [.int 62, .int (kK T n u.2)], (SS b true), Xu, J, 0, 0)) rfl trivial ?_
                refine r_icmp okX5_readCondition rfl (fun (h133_1 : (kK T n u.2) = (62 : Int32)) => ?_) (fun (h133_1 : ¬ (kK T n u.2) = (62 : Int32)) => ?_)
                · exact absurd h133_1 m62
                · refine r_run okX5_readCondition 2 (cs := []) (σ' := (138, [some (.ref 95), some (.int (nI q)), some (.int 0), some (.int (kK T n u.2))], [.int 1, .ref 95], (SS b true), Xu, J, 0, 0)) rfl trivial ?_
                  refine r_callV okX5_readCondition okX5_refuse [.int 1] [] 95 rfl rfl rfl kkX5_refuse rfl rfl (by decide) rfl rfl rfl (by omega) ⟨Nat.le_refl _, Nat.le_refl _⟩ (Nat.le_of_ble_eq_true rfl) (b_ref79 γ hTu gP 1) (fun v1 S1 I1 J1 hp => ?_)
                  obtain ⟨rfl, rfl, ⟨fr1, fl1⟩, rfl⟩ := hp
                  obtain ⟨Xr, eXr⟩ : ∃ z, z = I1 := ⟨_, rfl⟩
                  subst eXr
                  show Rj _ _ _ _ _ _ (141, [some (.ref 95), some (.int (nI q)), some (.int 0), some (.int (kK T n u.2))], [.int 0], (SS b true), Xr, J, 0, 0)
                  refine r_iret okX5_readCondition rfl rfl (by decide +kernel) (Nat.le_refl _) (Nat.le_refl _) ?_
                  exact ⟨rfl, rfl, .inl (1, u.2), ⟨_, hc, Or.inr ⟨u, rfl, Or.inl ⟨hcm, rfl⟩⟩⟩, fr_t hfr (f9_X fr1), rfl, OuF_9 (by decide) fr1 (OuO_F gO (by simp only [List.length_append, List.length_cons, List.length_nil] at *; omega)), fl1⟩
          · have h108_4 : (1 : Int32) = (0 : Int32) := Classical.not_not.mp h108_40
            exact absurd h108_4 (by decide)
      · have h25 : (kK T n i) = (40 : Int32) := Classical.not_not.mp h250
        exact absurd h25 k40
  · have h6 : (kK T n i) = (6 : Int32) := Classical.not_not.mp h60
    exact absurd h6 k6
theorem b_cz6_79 (γ : GE) {b : Bool} {J : AJ} {T : Nat → Int32} {n N i : Nat} {l : Cd} {X : AI} (hT : Tkn T n N X) (hP : PsO T n N X i) (hO : OuO X 79 l) (hl : l.length ≤ i) (h : kK T n i = 6) : Ct γ mX5_readCondition 3 0 0 [.ref 95, .int 8] (SS b true) X J (fun rt S' I' J' => (SS b true) = S' ∧ J = J' ∧ ∃ res, Cn T n 0 i res ∧ RsO T n N 79 X l res rt I') := by
  have hN := hT.1
  have hiN := hP.1
  have e7 : X 95 7 = 6 := hP.2.2.1.trans h
  refine ct_of okX5_readCondition (L := [some (.ref 95), some (.int 8), none, none]) (Nat.le_of_ble_eq_true rfl) rfl ?_
  refine r_run okX5_readCondition 3 (cs := []) (σ' := (6, [some (.ref 95), some (.int 8), none, none], [.int 6, .int (X 95 7)], (SS b true), X, J, 0, 0)) rfl trivial ?_
  simp only [e7]
  show Rj _ _ _ _ _ _ (6, [some (.ref 95), some (.int 8), none, none], [.int 6, .int 6], (SS b true), X, J, 0, 0)
  refine r_icmp okX5_readCondition rfl (fun (h6 : ¬ (6 : Int32) = (6 : Int32)) => ?_) (fun h60 => ?_)
  · exact absurd h6 (by decide)
  · have h6 : (6 : Int32) = (6 : Int32) := Classical.not_not.mp h60
    refine r_run okX5_readCondition 4 (cs := []) (σ' := (16, [some (.ref 95), some (.int 8), some (.int 1), none], [.int 1], (SS b true), X, J, 0, 0)) rfl trivial ?_
    refine r_ifc okX5_readCondition rfl (fun (h16 : ¬ (1 : Int32) = (0 : Int32)) => ?_) (fun h160 => ?_)
    · refine r_run okX5_readCondition 2 (cs := []) (σ' := (31, [some (.ref 95), some (.int 8), some (.int 1), none], [.int 8, .int 8], (SS b true), X, J, 0, 0)) rfl trivial ?_
      refine r_icmp okX5_readCondition rfl (fun (h31 : (8 : Int32) < (8 : Int32)) => ?_) (fun (h31 : ¬ (8 : Int32) < (8 : Int32)) => ?_)
      · exact absurd h31 (by decide)
      · refine r_run okX5_readCondition 2 (cs := []) (σ' := (36, [some (.ref 95), some (.int 8), some (.int 1), none], [.int 3, .ref 95], (SS b true), X, J, 0, 0)) rfl trivial ?_
        refine r_callV okX5_readCondition okX5_refuse [.int 3] [] 95 rfl rfl rfl kkX5_refuse rfl rfl (by decide) rfl rfl rfl (by decide) ⟨Nat.le_refl _, Nat.le_refl _⟩ (Nat.le_of_ble_eq_true rfl) (b_ref79 γ hT hP 3) (fun v1 S1 I1 J1 hp => ?_)
        obtain ⟨rfl, rfl, ⟨fr1, fl1⟩, rfl⟩ := hp
        obtain ⟨Xr, eXr⟩ : ∃ z, z = I1 := ⟨_, rfl⟩
        subst eXr
        show Rj _ _ _ _ _ _ (39, [some (.ref 95), some (.int 8), some (.int 1), none], [.int 0], (SS b true), Xr, J, 0, 0)
        refine r_iret okX5_readCondition rfl rfl (by decide +kernel) (Nat.le_refl _) (Nat.le_refl _) ?_
        exact ⟨rfl, rfl, .inl (3, i), by unfold Cn; rw [if_pos (Or.inl h)], f9_X fr1, rfl, OuF_9 (by decide) fr1 (OuO_F hO (by omega)), fl1⟩
    · have h16 : (1 : Int32) = (0 : Int32) := Classical.not_not.mp h160
      exact absurd h16 (by decide)
theorem b_cz40_79 (γ : GE) {b : Bool} {J : AJ} {T : Nat → Int32} {n N i : Nat} {l : Cd} {X : AI} (hT : Tkn T n N X) (hP : PsO T n N X i) (hO : OuO X 79 l) (hl : l.length ≤ i) (h : kK T n i = 40) : Ct γ mX5_readCondition 3 0 0 [.ref 95, .int 8] (SS b true) X J (fun rt S' I' J' => (SS b true) = S' ∧ J = J' ∧ ∃ res, Cn T n 0 i res ∧ RsO T n N 79 X l res rt I') := by
  have hN := hT.1
  have hiN := hP.1
  have e7 : X 95 7 = 40 := hP.2.2.1.trans h
  refine ct_of okX5_readCondition (L := [some (.ref 95), some (.int 8), none, none]) (Nat.le_of_ble_eq_true rfl) rfl ?_
  refine r_run okX5_readCondition 3 (cs := []) (σ' := (6, [some (.ref 95), some (.int 8), none, none], [.int 6, .int (X 95 7)], (SS b true), X, J, 0, 0)) rfl trivial ?_
  simp only [e7]
  show Rj _ _ _ _ _ _ (6, [some (.ref 95), some (.int 8), none, none], [.int 6, .int 40], (SS b true), X, J, 0, 0)
  refine r_icmp okX5_readCondition rfl (fun (h6 : ¬ (40 : Int32) = (6 : Int32)) => ?_) (fun h60 => ?_)
  · refine r_run okX5_readCondition 3 (cs := []) (σ' := (16, [some (.ref 95), some (.int 8), some (.int 0), none], [.int 0], (SS b true), X, J, 0, 0)) rfl trivial ?_
    refine r_ifc okX5_readCondition rfl (fun (h16 : ¬ (0 : Int32) = (0 : Int32)) => ?_) (fun h160 => ?_)
    · exact absurd h16 (by decide)
    · have h16 : (0 : Int32) = (0 : Int32) := Classical.not_not.mp h160
      refine r_run okX5_readCondition 3 (cs := []) (σ' := (25, [some (.ref 95), some (.int 8), some (.int 0), none], [.int 40, .int (X 95 7)], (SS b true), X, J, 0, 0)) rfl trivial ?_
      simp only [e7]
      show Rj _ _ _ _ _ _ (25, [some (.ref 95), some (.int 8), some (.int 0), none], [.int 40, .int 40], (SS b true), X, J, 0, 0)
      refine r_icmp okX5_readCondition rfl (fun (h25 : ¬ (40 : Int32) = (40 : Int32)) => ?_) (fun h250 => ?_)
      · exact absurd h25 (by decide)
      · have h25 : (40 : Int32) = (40 : Int32) := Classical.not_not.mp h250
        refine r_run okX5_readCondition 2 (cs := []) (σ' := (31, [some (.ref 95), some (.int 8), some (.int 0), none], [.int 8, .int 8], (SS b true), X, J, 0, 0)) rfl trivial ?_
        refine r_icmp okX5_readCondition rfl (fun (h31 : (8 : Int32) < (8 : Int32)) => ?_) (fun (h31 : ¬ (8 : Int32) < (8 : Int32)) => ?_)
        · exact absurd h31 (by decide)
        · refine r_run okX5_readCondition 2 (cs := []) (σ' := (36, [some (.ref 95), some (.int 8), some (.int 0), none], [.int 3, .ref 95], (SS b true), X, J, 0, 0)) rfl trivial ?_
          refine r_callV okX5_readCondition okX5_refuse [.int 3] [] 95 rfl rfl rfl kkX5_refuse rfl rfl (by decide) rfl rfl rfl (by decide) ⟨Nat.le_refl _, Nat.le_refl _⟩ (Nat.le_of_ble_eq_true rfl) (b_ref79 γ hT hP 3) (fun v1 S1 I1 J1 hp => ?_)
          obtain ⟨rfl, rfl, ⟨fr1, fl1⟩, rfl⟩ := hp
          obtain ⟨Xr, eXr⟩ : ∃ z, z = I1 := ⟨_, rfl⟩
          subst eXr
          show Rj _ _ _ _ _ _ (39, [some (.ref 95), some (.int 8), some (.int 0), none], [.int 0], (SS b true), Xr, J, 0, 0)
          refine r_iret okX5_readCondition rfl rfl (by decide +kernel) (Nat.le_refl _) (Nat.le_refl _) ?_
          exact ⟨rfl, rfl, .inl (3, i), by unfold Cn; rw [if_pos (Or.inr h)], f9_X fr1, rfl, OuF_9 (by decide) fr1 (OuO_F hO (by omega)), fl1⟩
  · have h6 : (40 : Int32) = (6 : Int32) := Classical.not_not.mp h60
    exact absurd h6 (by decide)
theorem b_cnot79 (γ : GE) {b : Bool} {J : AJ} {T : Nat → Int32} {n N i r q : Nat} {l : Cd} {X : AI} (hT : Tkn T n N X) (hP : PsO T n N X i) (hO : OuO X 79 l) (hl : l.length ≤ i) (hC : CnC79 γ b T n N r) (hq : q + (r + 1) = 8) (h : kK T n i = 6) : Ct γ mX5_readCondition (5 + 2 * r) 0 0 [.ref 95, .int (nI q)] (SS b true) X J (fun rt S' I' J' => (SS b true) = S' ∧ J = J' ∧ ∃ res, Cn T n (r + 1) i res ∧ RsO T n N 79 X l res rt I') := by
  have hN := hT.1
  have hiN := hP.1
  have e7 : X 95 7 = 6 := hP.2.2.1.trans h
  have hi : i < N := kK_lt hT hiN (by rw [h]; decide)
  refine ct_of okX5_readCondition (L := [some (.ref 95), some (.int (nI q)), none, none]) (Nat.le_of_ble_eq_true rfl) rfl ?_
  refine r_run okX5_readCondition 3 (cs := []) (σ' := (6, [some (.ref 95), some (.int (nI q)), none, none], [.int 6, .int (X 95 7)], (SS b true), X, J, 0, 0)) rfl trivial ?_
  simp only [e7]
  show Rj _ _ _ _ _ _ (6, [some (.ref 95), some (.int (nI q)), none, none], [.int 6, .int 6], (SS b true), X, J, 0, 0)
  refine r_icmp okX5_readCondition rfl (fun (h6 : ¬ (6 : Int32) = (6 : Int32)) => ?_) (fun h60 => ?_)
  · exact absurd h6 (by decide)
  · have h6 : (6 : Int32) = (6 : Int32) := Classical.not_not.mp h60
    refine r_run okX5_readCondition 4 (cs := []) (σ' := (16, [some (.ref 95), some (.int (nI q)), some (.int 1), none], [.int 1], (SS b true), X, J, 0, 0)) rfl trivial ?_
    refine r_ifc okX5_readCondition rfl (fun (h16 : ¬ (1 : Int32) = (0 : Int32)) => ?_) (fun h160 => ?_)
    · refine r_run okX5_readCondition 2 (cs := []) (σ' := (31, [some (.ref 95), some (.int (nI q)), some (.int 1), none], [.int 8, .int (nI q)], (SS b true), X, J, 0, 0)) rfl trivial ?_
      refine r_icmp okX5_readCondition rfl (fun (h31 : (nI q) < (8 : Int32)) => ?_) (fun (h31 : ¬ (nI q) < (8 : Int32)) => ?_)
      · refine r_run okX5_readCondition 1 (cs := []) (σ' := (41, [some (.ref 95), some (.int (nI q)), some (.int 1), none], [.ref 95], (SS b true), X, J, 0, 0)) rfl trivial ?_
        refine r_callV okX5_readCondition okX5_advance [] [] 95 rfl rfl rfl kkX5_advance rfl rfl (by decide) rfl rfl rfl (by omega) ⟨Nat.le_refl _, Nat.le_refl _⟩ (Nat.le_of_ble_eq_true rfl) (b_adv79 γ hT hP hi) (fun v1 S1 I1 J1 hp => ?_)
        obtain ⟨rfl, rfl, ⟨fXa, pXa⟩, rfl⟩ := hp
        obtain ⟨Xa, eXa⟩ : ∃ z, z = I1 := ⟨_, rfl⟩
        subst eXa
        have hTa : Tkn T n N Xa := Tkn_k (A := 79) (by decide) (f9_X fXa) hT
        have hOa := OuO_9 (by decide) fXa hO
        show Rj _ _ _ _ _ _ (44, [some (.ref 95), some (.int (nI q)), some (.int 1), none], [], (SS b true), Xa, J, 0, 0)
        refine r_run okX5_readCondition 1 (cs := []) (σ' := (45, [some (.ref 95), some (.int (nI q)), some (.int 1), none], [.int 1], (SS b true), Xa, J, 0, 0)) rfl trivial ?_
        refine r_ifc okX5_readCondition rfl (fun (h45 : (1 : Int32) = (0 : Int32)) => ?_) (fun (h45 : ¬ (1 : Int32) = (0 : Int32)) => ?_)
        · exact absurd h45 (by decide)
        · refine r_run okX5_readCondition 4 (cs := []) (σ' := (52, [some (.ref 95), some (.int (nI q)), some (.int 1), none], [.int ((nI q) + 1), .ref 95], (SS b true), Xa, J, 0, 0)) rfl trivial ?_
          simp only [← nI_succ]
          show Rj _ _ _ _ _ _ (52, [some (.ref 95), some (.int (nI q)), some (.int 1), none], [.int (nI (q + 1)), .ref 95], (SS b true), Xa, J, 0, 0)
          refine r_callV okX5_readCondition okX5_readCondition [.int (nI (q + 1))] [] 95 rfl rfl rfl kkX5_readCondition rfl rfl (by decide) rfl rfl rfl (by omega) ⟨Nat.le_refl _, Nat.le_refl _⟩ (Nat.le_of_ble_eq_true rfl) (hC Xa J (i + 1) (q + 1) l (by omega) hTa pXa hOa (by omega)) (fun v1 S1 I1 J1 hp => ?_)
          obtain ⟨rfl, rfl, res, hc, hfr, hr⟩ := hp
          obtain ⟨Xu, eXu⟩ : ∃ z, z = I1 := ⟨_, rfl⟩
          subst eXu
          cases res with
          | inl e =>
            obtain ⟨rfl, gF, gE⟩ := hr
            show Rj _ _ _ _ _ _ (55, [some (.ref 95), some (.int (nI q)), some (.int 1), none], [.int 0], (SS b true), Xu, J, 0, 0)
            refine r_ifc okX5_readCondition rfl (fun (h55 : (0 : Int32) = (0 : Int32)) => ?_) (fun (h55 : ¬ (0 : Int32) = (0 : Int32)) => ?_)
            · refine r_run okX5_readCondition 2 (cs := []) (σ' := (103, [some (.ref 95), some (.int (nI q)), some (.int 1), none], [.int 0], (SS b true), Xu, J, 0, 0)) rfl trivial ?_
              refine r_iret okX5_readCondition rfl rfl (by decide +kernel) (Nat.le_refl _) (Nat.le_refl _) ?_
              exact ⟨rfl, rfl, .inl e, by unfold Cn; rw [if_pos h]; exact ⟨_, hc, Or.inl ⟨e, rfl, rfl⟩⟩, fr_t (f9_X fXa) hfr, rfl, gF, gE⟩
            · exact absurd h55 (by decide)
          | inr u =>
            obtain ⟨rfl, gP, gO⟩ := hr
            have hq1 := Cn_len hc
            have hq3 := len_flt u.1
            have hq2 := gP.1
            show Rj _ _ _ _ _ _ (55, [some (.ref 95), some (.int (nI q)), some (.int 1), none], [.int 1], (SS b true), Xu, J, 0, 0)
            refine r_ifc okX5_readCondition rfl (fun (h55_1 : (1 : Int32) = (0 : Int32)) => ?_) (fun (h55_1 : ¬ (1 : Int32) = (0 : Int32)) => ?_)
            · exact absurd h55_1 (by decide)
            · refine r_run okX5_readCondition 4 (cs := []) (σ' := (65, [some (.ref 95), some (.int (nI q)), some (.int 1), none], [.int 0, .int 6, .ref 79], (SS b true), Xu, J, 0, 0)) rfl trivial ?_
              refine r_callV okX5_readCondition okX6_add [.int 6, .int 0] [] 79 rfl rfl rfl kkX6_add rfl rfl (by decide) rfl rfl rfl (by omega) ⟨Nat.le_refl _, Nat.le_refl _⟩ (Nat.le_of_ble_eq_true rfl) (a_add79 γ gO (by simp only [List.length_append, List.length_cons, List.length_nil] at *; omega) (p := (9, 0)) rfl) (fun v1 S1 I1 J1 hp => ?_)
              obtain ⟨rfl, rfl, ⟨fXg, oXg⟩, rfl⟩ := hp
              obtain ⟨Xg, eXg⟩ : ∃ z, z = I1 := ⟨_, rfl⟩
              subst eXg
              show Rj _ _ _ _ _ _ (68, [some (.ref 95), some (.int (nI q)), some (.int 1), none], [.int 1], (SS b true), Xg, J, 0, 0)
              refine r_ifc okX5_readCondition rfl (fun (h68 : (1 : Int32) = (0 : Int32)) => ?_) (fun (h68 : ¬ (1 : Int32) = (0 : Int32)) => ?_)
              · exact absurd h68 (by decide)
              · refine r_run okX5_readCondition 2 (cs := []) (σ' := (103, [some (.ref 95), some (.int (nI q)), some (.int 1), none], [.int 1], (SS b true), Xg, J, 0, 0)) rfl trivial ?_
                refine r_iret okX5_readCondition rfl rfl (by decide +kernel) (Nat.le_refl _) (Nat.le_refl _) ?_
                exact ⟨rfl, rfl, .inr (u.1 ++ [(9, 0)], u.2), by unfold Cn; rw [if_pos h]; exact ⟨_, hc, Or.inr ⟨u, rfl, rfl⟩⟩, fr_t (fr_t (f9_X fXa) hfr) (fA_X fXg), rfl, PsO_k (A := 79) (by decide) fXg gP, by show OuO Xg 79 (l ++ (u.1 ++ [(9, 0)])); rw [← List.append_assoc]; exact oXg⟩
      · exact absurd (nI_lt (a := q) (b := 8) (by omega) (by decide)) h31
    · have h16 : (1 : Int32) = (0 : Int32) := Classical.not_not.mp h160
      exact absurd h16 (by decide)
theorem b_cbr79 (γ : GE) {b : Bool} {J : AJ} {T : Nat → Int32} {n N i r q : Nat} {l : Cd} {X : AI} (hT : Tkn T n N X) (hP : PsO T n N X i) (hO : OuO X 79 l) (hl : l.length ≤ i) (hC : CnC79 γ b T n N r) (hq : q + (r + 1) = 8) (h : kK T n i = 40) : Ct γ mX5_readCondition (5 + 2 * r) 0 0 [.ref 95, .int (nI q)] (SS b true) X J (fun rt S' I' J' => (SS b true) = S' ∧ J = J' ∧ ∃ res, Cn T n (r + 1) i res ∧ RsO T n N 79 X l res rt I') := by
  have hN := hT.1
  have hiN := hP.1
  have e7 : X 95 7 = 40 := hP.2.2.1.trans h
  have hi : i < N := kK_lt hT hiN (by rw [h]; decide)
  refine ct_of okX5_readCondition (L := [some (.ref 95), some (.int (nI q)), none, none]) (Nat.le_of_ble_eq_true rfl) rfl ?_
  refine r_run okX5_readCondition 3 (cs := []) (σ' := (6, [some (.ref 95), some (.int (nI q)), none, none], [.int 6, .int (X 95 7)], (SS b true), X, J, 0, 0)) rfl trivial ?_
  simp only [e7]
  show Rj _ _ _ _ _ _ (6, [some (.ref 95), some (.int (nI q)), none, none], [.int 6, .int 40], (SS b true), X, J, 0, 0)
  refine r_icmp okX5_readCondition rfl (fun (h6 : ¬ (40 : Int32) = (6 : Int32)) => ?_) (fun h60 => ?_)
  · refine r_run okX5_readCondition 3 (cs := []) (σ' := (16, [some (.ref 95), some (.int (nI q)), some (.int 0), none], [.int 0], (SS b true), X, J, 0, 0)) rfl trivial ?_
    refine r_ifc okX5_readCondition rfl (fun (h16 : ¬ (0 : Int32) = (0 : Int32)) => ?_) (fun h160 => ?_)
    · exact absurd h16 (by decide)
    · have h16 : (0 : Int32) = (0 : Int32) := Classical.not_not.mp h160
      refine r_run okX5_readCondition 3 (cs := []) (σ' := (25, [some (.ref 95), some (.int (nI q)), some (.int 0), none], [.int 40, .int (X 95 7)], (SS b true), X, J, 0, 0)) rfl trivial ?_
      simp only [e7]
      show Rj _ _ _ _ _ _ (25, [some (.ref 95), some (.int (nI q)), some (.int 0), none], [.int 40, .int 40], (SS b true), X, J, 0, 0)
      refine r_icmp okX5_readCondition rfl (fun (h25 : ¬ (40 : Int32) = (40 : Int32)) => ?_) (fun h250 => ?_)
      · exact absurd h25 (by decide)
      · have h25 : (40 : Int32) = (40 : Int32) := Classical.not_not.mp h250
        refine r_run okX5_readCondition 2 (cs := []) (σ' := (31, [some (.ref 95), some (.int (nI q)), some (.int 0), none], [.int 8, .int (nI q)], (SS b true), X, J, 0, 0)) rfl trivial ?_
        refine r_icmp okX5_readCondition rfl (fun (h31 : (nI q) < (8 : Int32)) => ?_) (fun (h31 : ¬ (nI q) < (8 : Int32)) => ?_)
        · refine r_run okX5_readCondition 1 (cs := []) (σ' := (41, [some (.ref 95), some (.int (nI q)), some (.int 0), none], [.ref 95], (SS b true), X, J, 0, 0)) rfl trivial ?_
          refine r_callV okX5_readCondition okX5_advance [] [] 95 rfl rfl rfl kkX5_advance rfl rfl (by decide) rfl rfl rfl (by omega) ⟨Nat.le_refl _, Nat.le_refl _⟩ (Nat.le_of_ble_eq_true rfl) (b_adv79 γ hT hP hi) (fun v1 S1 I1 J1 hp => ?_)
          obtain ⟨rfl, rfl, ⟨fXa, pXa⟩, rfl⟩ := hp
          obtain ⟨Xa, eXa⟩ : ∃ z, z = I1 := ⟨_, rfl⟩
          subst eXa
          have hTa : Tkn T n N Xa := Tkn_k (A := 79) (by decide) (f9_X fXa) hT
          have hOa := OuO_9 (by decide) fXa hO
          show Rj _ _ _ _ _ _ (44, [some (.ref 95), some (.int (nI q)), some (.int 0), none], [], (SS b true), Xa, J, 0, 0)
          refine r_run okX5_readCondition 1 (cs := []) (σ' := (45, [some (.ref 95), some (.int (nI q)), some (.int 0), none], [.int 0], (SS b true), Xa, J, 0, 0)) rfl trivial ?_
          refine r_ifc okX5_readCondition rfl (fun (h45 : (0 : Int32) = (0 : Int32)) => ?_) (fun (h45 : ¬ (0 : Int32) = (0 : Int32)) => ?_)
          · refine r_run okX5_readCondition 4 (cs := []) (σ' := (83, [some (.ref 95), some (.int (nI q)), some (.int 0), none], [.int ((nI q) + 1), .ref 95], (SS b true), Xa, J, 0, 0)) rfl trivial ?_
            simp only [← nI_succ]
            show Rj _ _ _ _ _ _ (83, [some (.ref 95), some (.int (nI q)), some (.int 0), none], [.int (nI (q + 1)), .ref 95], (SS b true), Xa, J, 0, 0)
            refine r_callV okX5_readCondition okX5_readAny [.int (nI (q + 1))] [] 95 rfl rfl rfl kkX5_readAny rfl rfl (by decide) rfl rfl rfl (by omega) ⟨Nat.le_refl _, Nat.le_refl _⟩ (Nat.le_of_ble_eq_true rfl) (b_any79 γ b T n N r hC Xa J (i + 1) (q + 1) l (by omega) hTa pXa hOa (by omega)) (fun v1 S1 I1 J1 hp => ?_)
            obtain ⟨rfl, rfl, res, hc, hfr, hr⟩ := hp
            obtain ⟨Xu, eXu⟩ : ∃ z, z = I1 := ⟨_, rfl⟩
            subst eXu
            cases res with
            | inl e =>
              obtain ⟨rfl, gF, gE⟩ := hr
              show Rj _ _ _ _ _ _ (86, [some (.ref 95), some (.int (nI q)), some (.int 0), none], [.int 0], (SS b true), Xu, J, 0, 0)
              refine r_ifc okX5_readCondition rfl (fun (h86 : (0 : Int32) = (0 : Int32)) => ?_) (fun (h86 : ¬ (0 : Int32) = (0 : Int32)) => ?_)
              · refine r_run okX5_readCondition 1 (cs := []) (σ' := (103, [some (.ref 95), some (.int (nI q)), some (.int 0), none], [.int 0], (SS b true), Xu, J, 0, 0)) rfl trivial ?_
                refine r_iret okX5_readCondition rfl rfl (by decide +kernel) (Nat.le_refl _) (Nat.le_refl _) ?_
                exact ⟨rfl, rfl, .inl e, by unfold Cn; rw [if_neg (by rw [h]; decide), if_pos h]; exact ⟨_, hc, Or.inl ⟨e, rfl, rfl⟩⟩, fr_t (f9_X fXa) hfr, rfl, gF, gE⟩
              · exact absurd h86 (by decide)
            | inr u =>
              obtain ⟨rfl, gP, gO⟩ := hr
              have hq1 := An_len (fun _ _ z => Cn_len z) hc
              have hq3 := len_flt u.1
              have hq2 := gP.1
              have hTu : Tkn T n N Xu := Tkn_k (A := 79) (by decide) hfr hTa
              by_cases hk : kK T n u.2 = 41
              · show Rj _ _ _ _ _ _ (86, [some (.ref 95), some (.int (nI q)), some (.int 0), none], [.int 1], (SS b true), Xu, J, 0, 0)
                refine r_ifc okX5_readCondition rfl (fun (h86_1 : (1 : Int32) = (0 : Int32)) => ?_) (fun (h86_1 : ¬ (1 : Int32) = (0 : Int32)) => ?_)
                · exact absurd h86_1 (by decide)
                · refine r_run okX5_readCondition 2 (cs := []) (σ' := (92, [some (.ref 95), some (.int (nI q)), some (.int 0), none], [.int 41, .ref 95], (SS b true), Xu, J, 0, 0)) rfl trivial ?_
                  refine r_callV okX5_readCondition okX5_take [.int 41] [] 95 rfl rfl rfl kkX5_take rfl rfl (by decide) rfl rfl rfl (by omega) ⟨Nat.le_refl _, Nat.le_refl _⟩ (Nat.le_of_ble_eq_true rfl) (b_take179 γ hTu gP (kK_lt hTu hq2 (by rw [hk]; decide)) hk) (fun v1 S1 I1 J1 hp => ?_)
                  obtain ⟨rfl, rfl, ⟨fXt, pXt⟩, rfl⟩ := hp
                  obtain ⟨Xt, eXt⟩ : ∃ z, z = I1 := ⟨_, rfl⟩
                  subst eXt
                  show Rj _ _ _ _ _ _ (95, [some (.ref 95), some (.int (nI q)), some (.int 0), none], [.int 1], (SS b true), Xt, J, 0, 0)
                  refine r_ifc okX5_readCondition rfl (fun (h95 : (1 : Int32) = (0 : Int32)) => ?_) (fun (h95 : ¬ (1 : Int32) = (0 : Int32)) => ?_)
                  · exact absurd h95 (by decide)
                  · refine r_run okX5_readCondition 2 (cs := []) (σ' := (103, [some (.ref 95), some (.int (nI q)), some (.int 0), none], [.int 1], (SS b true), Xt, J, 0, 0)) rfl trivial ?_
                    refine r_iret okX5_readCondition rfl rfl (by decide +kernel) (Nat.le_refl _) (Nat.le_refl _) ?_
                    exact ⟨rfl, rfl, .inr (u.1, u.2 + 1), by unfold Cn; rw [if_neg (by rw [h]; decide), if_pos h]; exact ⟨_, hc, Or.inr ⟨u, rfl, Or.inl ⟨hk, rfl⟩⟩⟩, fr_t (fr_t (f9_X fXa) hfr) (f9_X fXt), rfl, pXt, OuO_9 (by decide) fXt gO⟩
              · show Rj _ _ _ _ _ _ (86, [some (.ref 95), some (.int (nI q)), some (.int 0), none], [.int 1], (SS b true), Xu, J, 0, 0)
                refine r_ifc okX5_readCondition rfl (fun (h86_2 : (1 : Int32) = (0 : Int32)) => ?_) (fun (h86_2 : ¬ (1 : Int32) = (0 : Int32)) => ?_)
                · exact absurd h86_2 (by decide)
                · refine r_run okX5_readCondition 2 (cs := []) (σ' := (92, [some (.ref 95), some (.int (nI q)), some (.int 0), none], [.int 41, .ref 95], (SS b true), Xu, J, 0, 0)) rfl trivial ?_
                  refine r_callV okX5_readCondition okX5_take [.int 41] [] 95 rfl rfl rfl kkX5_take rfl rfl (by decide) rfl rfl rfl (by omega) ⟨Nat.le_refl _, Nat.le_refl _⟩ (Nat.le_of_ble_eq_true rfl) (b_take079 γ hTu gP hk) (fun v1 S1 I1 J1 hp => ?_)
                  obtain ⟨rfl, rfl, ⟨fXt, pXt⟩, rfl⟩ := hp
                  obtain ⟨Xt, eXt⟩ : ∃ z, z = I1 := ⟨_, rfl⟩
                  subst eXt
                  show Rj _ _ _ _ _ _ (95, [some (.ref 95), some (.int (nI q)), some (.int 0), none], [.int 0], (SS b true), Xt, J, 0, 0)
                  refine r_ifc okX5_readCondition rfl (fun (h95_1 : (0 : Int32) = (0 : Int32)) => ?_) (fun (h95_1 : ¬ (0 : Int32) = (0 : Int32)) => ?_)
                  · refine r_run okX5_readCondition 1 (cs := []) (σ' := (103, [some (.ref 95), some (.int (nI q)), some (.int 0), none], [.int 0], (SS b true), Xt, J, 0, 0)) rfl trivial ?_
                    refine r_iret okX5_readCondition rfl rfl (by decide +kernel) (Nat.le_refl _) (Nat.le_refl _) ?_
                    exact ⟨rfl, rfl, .inl (1, u.2), by unfold Cn; rw [if_neg (by rw [h]; decide), if_pos h]; exact ⟨_, hc, Or.inr ⟨u, rfl, Or.inr ⟨hk, rfl⟩⟩⟩, fr_t (fr_t (f9_X fXa) hfr) (f9_X fXt), rfl, OuF_9 (by decide) fXt (OuO_F gO (by simp only [List.length_append, List.length_cons, List.length_nil] at *; omega)), pXt⟩
                  · exact absurd h95_1 (by decide)
          · exact absurd h45 (by decide)
        · exact absurd (nI_lt (a := q) (b := 8) (by omega) (by decide)) h31
  · have h6 : (40 : Int32) = (6 : Int32) := Classical.not_not.mp h60
    exact absurd h6 (by decide)
theorem b_cn79 (γ : GE) (b : Bool) (T : Nat → Int32) (n N : Nat) : ∀ r, CnC79 γ b T n N r
  | 0 => fun X J i q l hq hT hP hO hl => by
    have e : q = 8 := by omega
    subst e
    by_cases h6 : kK T n i = 6
    · exact b_cz6_79 γ hT hP hO hl h6
    by_cases h40 : kK T n i = 40
    · exact b_cz40_79 γ hT hP hO hl h40
    refine ct_post (fun v S I J z => ?_) (b_cm79 γ (r := 0) (q := 8) hT hP hO hl h6 h40)
    obtain ⟨z1, z2, res, z3, z4⟩ := z
    exact ⟨z1, z2, res, by unfold Cn; rw [if_neg (fun y => y.elim h6 h40)]; exact z3, z4⟩
  | r + 1 => fun X J i q l hq hT hP hO hl => by
    have hC := b_cn79 γ b T n N r
    show Ct γ mX5_readCondition (3 + 2 * (r + 1)) _ _ _ _ _ _ _
    by_cases h6 : kK T n i = 6
    · rw [show 3 + 2 * (r + 1) = 5 + 2 * r by omega]; exact b_cnot79 γ hT hP hO hl hC hq h6
    by_cases h40 : kK T n i = 40
    · rw [show 3 + 2 * (r + 1) = 5 + 2 * r by omega]; exact b_cbr79 γ hT hP hO hl hC hq h40
    refine ct_post (fun v S I J z => ?_) (b_cm79 γ (r := r + 1) (q := q) hT hP hO hl h6 h40)
    obtain ⟨z1, z2, res, z3, z4⟩ := z
    exact ⟨z1, z2, res, by unfold Cn; rw [if_neg h6, if_neg h40]; exact z3, z4⟩
def CnC87 (γ : GE) (b : Bool) (T : Nat → Int32) (n N r : Nat) : Prop := ∀ (X : AI) (J : AJ) (i q : Nat) (l : Cd), q + r = 8 → Tkn T n N X → PsO T n N X i → OuO X 87 l → l.length ≤ i → Ct γ mX5_readCondition (3 + 2 * r) 0 0 [.ref 95, .int (nI q)] (SS b false) X J (fun rt S' I' J' => (SS b false) = S' ∧ J = J' ∧ ∃ res, Cn T n r i res ∧ RsO T n N 87 X l res rt I')
def AnC87 (γ : GE) (b : Bool) (T : Nat → Int32) (n N r : Nat) : Prop := ∀ (X : AI) (J : AJ) (i q : Nat) (l : Cd), q + r = 8 → Tkn T n N X → PsO T n N X i → OuO X 87 l → l.length ≤ i → Ct γ mX5_readAny (4 + 2 * r) 0 0 [.ref 95, .int (nI q)] (SS b false) X J (fun rt S' I' J' => (SS b false) = S' ∧ J = J' ∧ ∃ res, An T n (Cn T n r) i res ∧ RsO T n N 87 X l res rt I')
theorem an_end0_87 (γ : GE) {b : Bool} {J : AJ} {T : Nat → Int32} {n N i0 r q : Nat} {l : Cd} {X0 : AI} {X : AI} {i k : Nat} {acc : Cd} (k4 : ¬ kK T n i = 4) (k5 : ¬ kK T n i = 5) (hT : Tkn T n N X) (hP : PsO T n N X i) (hO : OuO X 87 (l ++ acc)) (hl : (l ++ acc).length + 0 ≤ i) (hk : k ≤ i) (hf : fr (qX 87) X0 X) (hd : ∀ res, (∃ f, AnT T n (Cn T n r) f 0 i acc res) → An T n (Cn T n r) i0 res) : Rj γ mX5_readAny (4 + 2 * r) 0 0 (fun rt S' I' J' => (SS b false) = S' ∧ J = J' ∧ ∃ res, An T n (Cn T n r) i0 res ∧ RsO T n N 87 X0 l res rt I') (11, [some (.ref 95), some (.int (nI q)), some (.int 1), some (.int 0), some (.int (nI k)), none], [], (SS b false), X, J, 0, 0) := by
  have hN := hT.1
  have hiN := hP.1
  have e7 := hP.2.2.1
  refine r_run okX5_readAny 2 (cs := []) (σ' := (16, [some (.ref 95), some (.int (nI q)), some (.int 1), some (.int 0), some (.int (nI k)), none], [.int 800, .int (nI k)], (SS b false), X, J, 0, 0)) rfl trivial ?_
  refine r_icmp okX5_readAny rfl (fun (h16 : (800 : Int32) ≤ (nI k)) => ?_) (fun (h16 : ¬ (800 : Int32) ≤ (nI k)) => ?_)
  · refine r_run okX5_readAny 1 (cs := []) (σ' := (110, [some (.ref 95), some (.int (nI q)), some (.int 1), some (.int 0), some (.int (nI k)), none], [.int 0], (SS b false), X, J, 0, 0)) rfl trivial ?_
    refine r_ifc okX5_readAny rfl (fun (h110 : (0 : Int32) = (0 : Int32)) => ?_) (fun (h110 : ¬ (0 : Int32) = (0 : Int32)) => ?_)
    · refine r_run okX5_readAny 1 (cs := []) (σ' := (124, [some (.ref 95), some (.int (nI q)), some (.int 1), some (.int 0), some (.int (nI k)), none], [.int 1], (SS b false), X, J, 0, 0)) rfl trivial ?_
      refine r_iret okX5_readAny rfl rfl (by decide +kernel) (Nat.le_refl _) (Nat.le_refl _) ?_
      have hs : AnT T n (Cn T n r) 1 0 i acc (.inr (acc ++ wO 0, i)) := by
        unfold AnT; rw [if_neg k5, if_neg k4]
      exact ⟨rfl, rfl, _, hd _ ⟨1, hs⟩, hf, rfl, hP, by show OuO X 87 (l ++ (acc ++ [])); rw [app_n]; exact hO⟩
    · exact absurd h110 (by decide)
  · refine r_run okX5_readAny 1 (cs := []) (σ' := (20, [some (.ref 95), some (.int (nI q)), some (.int 1), some (.int 0), some (.int (nI k)), none], [.int 1], (SS b false), X, J, 0, 0)) rfl trivial ?_
    refine r_ifc okX5_readAny rfl (fun (h20 : (1 : Int32) = (0 : Int32)) => ?_) (fun (h20 : ¬ (1 : Int32) = (0 : Int32)) => ?_)
    · exact absurd h20 (by decide)
    · refine r_run okX5_readAny 3 (cs := []) (σ' := (28, [some (.ref 95), some (.int (nI q)), some (.int 1), some (.int 0), some (.int (nI k)), none], [.int 4, .int (X 95 7)], (SS b false), X, J, 0, 0)) rfl trivial ?_
      simp only [e7]
      show Rj _ _ _ _ _ _ (28, [some (.ref 95), some (.int (nI q)), some (.int 1), some (.int 0), some (.int (nI k)), none], [.int 4, .int (kK T n i)], (SS b false), X, J, 0, 0)
      refine r_icmp okX5_readAny rfl (fun (h28 : (kK T n i) = (4 : Int32)) => ?_) (fun (h28 : ¬ (kK T n i) = (4 : Int32)) => ?_)
      · exact absurd h28 k4
      · refine r_run okX5_readAny 3 (cs := []) (σ' := (36, [some (.ref 95), some (.int (nI q)), some (.int 1), some (.int 0), some (.int (nI k)), none], [.int 5, .int (X 95 7)], (SS b false), X, J, 0, 0)) rfl trivial ?_
        simp only [e7]
        show Rj _ _ _ _ _ _ (36, [some (.ref 95), some (.int (nI q)), some (.int 1), some (.int 0), some (.int (nI k)), none], [.int 5, .int (kK T n i)], (SS b false), X, J, 0, 0)
        refine r_icmp okX5_readAny rfl (fun (h36 : ¬ (kK T n i) = (5 : Int32)) => ?_) (fun h360 => ?_)
        · refine r_run okX5_readAny 1 (cs := []) (σ' := (110, [some (.ref 95), some (.int (nI q)), some (.int 1), some (.int 0), some (.int (nI k)), none], [.int 0], (SS b false), X, J, 0, 0)) rfl trivial ?_
          refine r_ifc okX5_readAny rfl (fun (h110_1 : (0 : Int32) = (0 : Int32)) => ?_) (fun (h110_1 : ¬ (0 : Int32) = (0 : Int32)) => ?_)
          · refine r_run okX5_readAny 1 (cs := []) (σ' := (124, [some (.ref 95), some (.int (nI q)), some (.int 1), some (.int 0), some (.int (nI k)), none], [.int 1], (SS b false), X, J, 0, 0)) rfl trivial ?_
            refine r_iret okX5_readAny rfl rfl (by decide +kernel) (Nat.le_refl _) (Nat.le_refl _) ?_
            have hs : AnT T n (Cn T n r) 1 0 i acc (.inr (acc ++ wO 0, i)) := by
              unfold AnT; rw [if_neg k5, if_neg k4]
            exact ⟨rfl, rfl, _, hd _ ⟨1, hs⟩, hf, rfl, hP, by show OuO X 87 (l ++ (acc ++ [])); rw [app_n]; exact hO⟩
          · exact absurd h110_1 (by decide)
        · have h36 : (kK T n i) = (5 : Int32) := Classical.not_not.mp h360
          exact absurd h36 k5
theorem an_5_0_87 (γ : GE) {b : Bool} {J : AJ} {T : Nat → Int32} {n N i0 r q : Nat} {l : Cd} {X0 : AI} (hC : CnC87 γ b T n N r) (hq : q + r = 8) {X : AI} {i k : Nat} {acc : Cd} (h : kK T n i = 5) (hT : Tkn T n N X) (hP : PsO T n N X i) (hO : OuO X 87 (l ++ acc)) (hl : (l ++ acc).length + 0 ≤ i) (hk : k ≤ i) (hf : fr (qX 87) X0 X) (hd : ∀ res, (∃ f, AnT T n (Cn T n r) f 0 i acc res) → An T n (Cn T n r) i0 res) (K : ∀ (u : Cd × Nat) (Y : AI), Cn T n r (i + 1) (.inr u) → Tkn T n N Y → PsO T n N Y u.2 → OuO Y 87 (l ++ (acc ++ u.1 ++ [(10, 0)])) → fr (qX 87) X0 Y → Rj γ mX5_readAny (4 + 2 * r) 0 0 (fun rt S' I' J' => (SS b false) = S' ∧ J = J' ∧ ∃ res, An T n (Cn T n r) i0 res ∧ RsO T n N 87 X0 l res rt I') (11, [some (.ref 95), some (.int (nI q)), some (.int 1), some (.int 0), some (.int (nI (k + 1))), none], [], (SS b false), Y, J, 0, 0)) : Rj γ mX5_readAny (4 + 2 * r) 0 0 (fun rt S' I' J' => (SS b false) = S' ∧ J = J' ∧ ∃ res, An T n (Cn T n r) i0 res ∧ RsO T n N 87 X0 l res rt I') (11, [some (.ref 95), some (.int (nI q)), some (.int 1), some (.int 0), some (.int (nI k)), none], [], (SS b false), X, J, 0, 0) := by
  have hN := hT.1
  have hiN := hP.1
  have e7 : X 95 7 = 5 := hP.2.2.1.trans h
  have hi : i < N := kK_lt hT hiN (by rw [h]; decide)
  refine r_run okX5_readAny 2 (cs := []) (σ' := (16, [some (.ref 95), some (.int (nI q)), some (.int 1), some (.int 0), some (.int (nI k)), none], [.int 800, .int (nI k)], (SS b false), X, J, 0, 0)) rfl trivial ?_
  refine r_icmp okX5_readAny rfl (fun (h16 : (800 : Int32) ≤ (nI k)) => ?_) (fun (h16 : ¬ (800 : Int32) ≤ (nI k)) => ?_)
  · exact absurd h16 (nI_ge (b := 800) (by omega) (by decide))
  · refine r_run okX5_readAny 1 (cs := []) (σ' := (20, [some (.ref 95), some (.int (nI q)), some (.int 1), some (.int 0), some (.int (nI k)), none], [.int 1], (SS b false), X, J, 0, 0)) rfl trivial ?_
    refine r_ifc okX5_readAny rfl (fun (h20 : (1 : Int32) = (0 : Int32)) => ?_) (fun (h20 : ¬ (1 : Int32) = (0 : Int32)) => ?_)
    · exact absurd h20 (by decide)
    · refine r_run okX5_readAny 3 (cs := []) (σ' := (28, [some (.ref 95), some (.int (nI q)), some (.int 1), some (.int 0), some (.int (nI k)), none], [.int 4, .int (X 95 7)], (SS b false), X, J, 0, 0)) rfl trivial ?_
      simp only [e7]
      show Rj _ _ _ _ _ _ (28, [some (.ref 95), some (.int (nI q)), some (.int 1), some (.int 0), some (.int (nI k)), none], [.int 4, .int 5], (SS b false), X, J, 0, 0)
      refine r_icmp okX5_readAny rfl (fun (h28 : (5 : Int32) = (4 : Int32)) => ?_) (fun (h28 : ¬ (5 : Int32) = (4 : Int32)) => ?_)
      · exact absurd h28 (by decide)
      · refine r_run okX5_readAny 3 (cs := []) (σ' := (36, [some (.ref 95), some (.int (nI q)), some (.int 1), some (.int 0), some (.int (nI k)), none], [.int 5, .int (X 95 7)], (SS b false), X, J, 0, 0)) rfl trivial ?_
        simp only [e7]
        show Rj _ _ _ _ _ _ (36, [some (.ref 95), some (.int (nI q)), some (.int 1), some (.int 0), some (.int (nI k)), none], [.int 5, .int 5], (SS b false), X, J, 0, 0)
        refine r_icmp okX5_readAny rfl (fun (h36 : ¬ (5 : Int32) = (5 : Int32)) => ?_) (fun h360 => ?_)
        · exact absurd h36 (by decide)
        · have h36 : (5 : Int32) = (5 : Int32) := Classical.not_not.mp h360
          refine r_run okX5_readAny 3 (cs := []) (σ' := (44, [some (.ref 95), some (.int (nI q)), some (.int 1), some (.int 0), some (.int (nI k)), none], [.int 5, .int (X 95 7)], (SS b false), X, J, 0, 0)) rfl trivial ?_
          simp only [e7]
          show Rj _ _ _ _ _ _ (44, [some (.ref 95), some (.int (nI q)), some (.int 1), some (.int 0), some (.int (nI k)), none], [.int 5, .int 5], (SS b false), X, J, 0, 0)
          refine r_icmp okX5_readAny rfl (fun (h44 : ¬ (5 : Int32) = (5 : Int32)) => ?_) (fun h440 => ?_)
          · exact absurd h44 (by decide)
          · have h44 : (5 : Int32) = (5 : Int32) := Classical.not_not.mp h440
            refine r_run okX5_readAny 4 (cs := []) (σ' := (56, [some (.ref 95), some (.int (nI q)), some (.int 1), some (.int 0), some (.int (nI k)), some (.int 1)], [.int 1], (SS b false), X, J, 0, 0)) rfl trivial ?_
            refine r_ifc okX5_readAny rfl (fun (h56 : ¬ (1 : Int32) = (0 : Int32)) => ?_) (fun h560 => ?_)
            · refine r_run okX5_readAny 1 (cs := []) (σ' := (74, [some (.ref 95), some (.int (nI q)), some (.int 1), some (.int 0), some (.int (nI k)), some (.int 1)], [.ref 95], (SS b false), X, J, 0, 0)) rfl trivial ?_
              refine r_callV okX5_readAny okX5_advance [] [] 95 rfl rfl rfl kkX5_advance rfl rfl (by decide) rfl rfl rfl (by omega) ⟨Nat.le_refl _, Nat.le_refl _⟩ (Nat.le_of_ble_eq_true rfl) (b_adv87 γ hT hP hi) (fun v1 S1 I1 J1 hp => ?_)
              obtain ⟨rfl, rfl, ⟨fXa, pXa⟩, rfl⟩ := hp
              obtain ⟨Xa, eXa⟩ : ∃ z, z = I1 := ⟨_, rfl⟩
              subst eXa
              have hTa : Tkn T n N Xa := Tkn_k (A := 87) (by decide) (f9_X fXa) hT
              have hOa := OuO_9 (by decide) fXa hO
              have hfa : fr (qX 87) X0 Xa := fr_t hf (f9_X fXa)
              show Rj _ _ _ _ _ _ (77, [some (.ref 95), some (.int (nI q)), some (.int 1), some (.int 0), some (.int (nI k)), some (.int 1)], [], (SS b false), Xa, J, 0, 0)
              refine r_run okX5_readAny 2 (cs := []) (σ' := (79, [some (.ref 95), some (.int (nI q)), some (.int 1), some (.int 0), some (.int (nI k)), some (.int 1)], [.int (nI q), .ref 95], (SS b false), Xa, J, 0, 0)) rfl trivial ?_
              refine r_callV okX5_readAny okX5_readCondition [.int (nI q)] [] 95 rfl rfl rfl kkX5_readCondition rfl rfl (by decide) rfl rfl rfl (by omega) ⟨Nat.le_refl _, Nat.le_refl _⟩ (Nat.le_of_ble_eq_true rfl) (hC Xa J (i + 1) q _ hq hTa pXa hOa (by simp only [List.length_append, List.length_cons, List.length_nil] at *; omega)) (fun v1 S1 I1 J1 hp => ?_)
              obtain ⟨rfl, rfl, res, hc, hfr, hr⟩ := hp
              obtain ⟨Xu, eXu⟩ : ∃ z, z = I1 := ⟨_, rfl⟩
              subst eXu
              cases res with
              | inl e =>
                obtain ⟨rfl, gF, gE⟩ := hr
                have hfu : fr (qX 87) X0 Xu := fr_t hfa hfr
                have hs : AnT T n (Cn T n r) 1 0 i acc (.inl e) := by unfold AnT; rw [if_pos h]; exact ⟨_, hc, Or.inl ⟨e, rfl, rfl⟩⟩
                show Rj _ _ _ _ _ _ (82, [some (.ref 95), some (.int (nI q)), some (.int 1), some (.int 0), some (.int (nI k)), some (.int 1)], [.int 0], (SS b false), Xu, J, 0, 0)
                refine r_run okX5_readAny 2 (cs := []) (σ' := (85, [some (.ref 95), some (.int (nI q)), some (.int 0), some (.int 0), some (.int (nI k)), some (.int 1)], [.int 1], (SS b false), Xu, J, 0, 0)) rfl trivial ?_
                refine r_ifc okX5_readAny rfl (fun (h85 : (1 : Int32) = (0 : Int32)) => ?_) (fun (h85 : ¬ (1 : Int32) = (0 : Int32)) => ?_)
                · exact absurd h85 (by decide)
                · refine r_run okX5_readAny 4 (cs := []) (σ' := (94, [some (.ref 95), some (.int (nI q)), some (.int 0), some (.int 0), some (.int (nI k)), some (.int 1)], [.int 0, .int 5, .ref 87], (SS b false), Xu, J, 0, 0)) rfl trivial ?_
                  refine r_callV okX5_readAny okX6_add [.int 5, .int 0] [] 87 rfl rfl rfl kkX6_add rfl rfl (by decide) rfl rfl rfl (by omega) ⟨Nat.le_refl _, Nat.le_refl _⟩ (Nat.le_of_ble_eq_true rfl) (a_addF87 γ gF 5 0) (fun v1 S1 I1 J1 hp => ?_)
                  obtain ⟨⟨zXf1, rfl⟩, rfl, ⟨fXf1, oXf1⟩, rfl⟩ := hp
                  obtain ⟨Xf1, eXf1⟩ : ∃ z, z = I1 := ⟨_, rfl⟩
                  subst eXf1
                  show Rj _ _ _ _ _ _ (97, [some (.ref 95), some (.int (nI q)), some (.int 0), some (.int 0), some (.int (nI k)), some (.int 1)], [.int zXf1], (SS b false), Xf1, J, 0, 0)
                  refine r_run okX5_readAny 6 (cs := []) (σ' := (16, [some (.ref 95), some (.int (nI q)), some (.int 0), some (.int 0), some (.int ((nI k) + 1)), some (.int 1)], [.int 800, .int ((nI k) + 1)], (SS b false), Xf1, J, 0, 0)) rfl trivial ?_
                  refine r_icmp okX5_readAny rfl (fun (h16_1 : (800 : Int32) ≤ ((nI k) + 1)) => ?_) (fun (h16_1 : ¬ (800 : Int32) ≤ ((nI k) + 1)) => ?_)
                  · refine r_run okX5_readAny 1 (cs := []) (σ' := (110, [some (.ref 95), some (.int (nI q)), some (.int 0), some (.int 0), some (.int ((nI k) + 1)), some (.int 1)], [.int 0], (SS b false), Xf1, J, 0, 0)) rfl trivial ?_
                    refine r_ifc okX5_readAny rfl (fun (h110 : (0 : Int32) = (0 : Int32)) => ?_) (fun (h110 : ¬ (0 : Int32) = (0 : Int32)) => ?_)
                    · refine r_run okX5_readAny 1 (cs := []) (σ' := (124, [some (.ref 95), some (.int (nI q)), some (.int 0), some (.int 0), some (.int ((nI k) + 1)), some (.int 1)], [.int 0], (SS b false), Xf1, J, 0, 0)) rfl trivial ?_
                      refine r_iret okX5_readAny rfl rfl (by decide +kernel) (Nat.le_refl _) (Nat.le_refl _) ?_
                      exact ⟨rfl, rfl, .inl e, hd _ ⟨1, hs⟩, (fr_t hfu (fA_X fXf1)), rfl, oXf1, (FlO_k (A := 87) (by decide) fXf1 gE)⟩
                    · exact absurd h110 (by decide)
                  · refine r_run okX5_readAny 1 (cs := []) (σ' := (20, [some (.ref 95), some (.int (nI q)), some (.int 0), some (.int 0), some (.int ((nI k) + 1)), some (.int 1)], [.int 0], (SS b false), Xf1, J, 0, 0)) rfl trivial ?_
                    refine r_ifc okX5_readAny rfl (fun (h20_1 : (0 : Int32) = (0 : Int32)) => ?_) (fun (h20_1 : ¬ (0 : Int32) = (0 : Int32)) => ?_)
                    · refine r_run okX5_readAny 1 (cs := []) (σ' := (110, [some (.ref 95), some (.int (nI q)), some (.int 0), some (.int 0), some (.int ((nI k) + 1)), some (.int 1)], [.int 0], (SS b false), Xf1, J, 0, 0)) rfl trivial ?_
                      refine r_ifc okX5_readAny rfl (fun (h110_1 : (0 : Int32) = (0 : Int32)) => ?_) (fun (h110_1 : ¬ (0 : Int32) = (0 : Int32)) => ?_)
                      · refine r_run okX5_readAny 1 (cs := []) (σ' := (124, [some (.ref 95), some (.int (nI q)), some (.int 0), some (.int 0), some (.int ((nI k) + 1)), some (.int 1)], [.int 0], (SS b false), Xf1, J, 0, 0)) rfl trivial ?_
                        refine r_iret okX5_readAny rfl rfl (by decide +kernel) (Nat.le_refl _) (Nat.le_refl _) ?_
                        exact ⟨rfl, rfl, .inl e, hd _ ⟨1, hs⟩, (fr_t hfu (fA_X fXf1)), rfl, oXf1, (FlO_k (A := 87) (by decide) fXf1 gE)⟩
                      · exact absurd h110_1 (by decide)
                    · exact absurd h20_1 (by decide)
              | inr u =>
                obtain ⟨rfl, gP, gO⟩ := hr
                have hq1 := Cn_len hc
                have hq3 := len_flt u.1
                have hq2 := gP.1
                show Rj _ _ _ _ _ _ (82, [some (.ref 95), some (.int (nI q)), some (.int 1), some (.int 0), some (.int (nI k)), some (.int 1)], [.int 1], (SS b false), Xu, J, 0, 0)
                refine r_run okX5_readAny 2 (cs := []) (σ' := (85, [some (.ref 95), some (.int (nI q)), some (.int 1), some (.int 0), some (.int (nI k)), some (.int 1)], [.int 1], (SS b false), Xu, J, 0, 0)) rfl trivial ?_
                refine r_ifc okX5_readAny rfl (fun (h85_1 : (1 : Int32) = (0 : Int32)) => ?_) (fun (h85_1 : ¬ (1 : Int32) = (0 : Int32)) => ?_)
                · exact absurd h85_1 (by decide)
                · refine r_run okX5_readAny 4 (cs := []) (σ' := (94, [some (.ref 95), some (.int (nI q)), some (.int 1), some (.int 0), some (.int (nI k)), some (.int 1)], [.int 0, .int 5, .ref 87], (SS b false), Xu, J, 0, 0)) rfl trivial ?_
                  refine r_callV okX5_readAny okX6_add [.int 5, .int 0] [] 87 rfl rfl rfl kkX6_add rfl rfl (by decide) rfl rfl rfl (by omega) ⟨Nat.le_refl _, Nat.le_refl _⟩ (Nat.le_of_ble_eq_true rfl) (a_add87 γ gO (by simp only [List.length_append, List.length_cons, List.length_nil] at *; omega) (p := (10, 0)) rfl) (fun v1 S1 I1 J1 hp => ?_)
                  obtain ⟨rfl, rfl, ⟨fXg, oXg⟩, rfl⟩ := hp
                  obtain ⟨Xg, eXg⟩ : ∃ z, z = I1 := ⟨_, rfl⟩
                  subst eXg
                  show Rj _ _ _ _ _ _ (97, [some (.ref 95), some (.int (nI q)), some (.int 1), some (.int 0), some (.int (nI k)), some (.int 1)], [.int 1], (SS b false), Xg, J, 0, 0)
                  refine r_run okX5_readAny 4 (cs := []) (σ' := (11, [some (.ref 95), some (.int (nI q)), some (.int 1), some (.int 0), some (.int ((nI k) + 1)), some (.int 1)], [], (SS b false), Xg, J, 0, 0)) rfl trivial ?_
                  rw [← nI_succ]
                  refine r_weak (L' := [some (.ref 95), some (.int (nI q)), some (.int 1), some (.int 0), some (.int (nI (k + 1))), none]) ⟨rfl, rfl, rfl, rfl, rfl, trivial⟩ ?_
                  refine K u _ hc (Tkn_k (A := 87) (by decide) (fA_X fXg) (Tkn_k (A := 87) (by decide) hfr hTa)) (PsO_k (A := 87) (by decide) fXg gP) ?_ (fr_t (fr_t hfa hfr) (fA_X fXg))
                  rw [show l ++ (acc ++ u.1 ++ [(10, 0)]) = l ++ acc ++ u.1 ++ [(10, 0)] by simp only [List.append_assoc]]
                  exact oXg
            · have h56 : (1 : Int32) = (0 : Int32) := Classical.not_not.mp h560
              exact absurd h56 (by decide)
theorem an_4_0_87 (γ : GE) {b : Bool} {J : AJ} {T : Nat → Int32} {n N i0 r q : Nat} {l : Cd} {X0 : AI} (hC : CnC87 γ b T n N r) (hq : q + r = 8) {X : AI} {i k : Nat} {acc : Cd} (h : kK T n i = 4) (hT : Tkn T n N X) (hP : PsO T n N X i) (hO : OuO X 87 (l ++ acc)) (hl : (l ++ acc).length + 0 ≤ i) (hk : k ≤ i) (hf : fr (qX 87) X0 X) (hd : ∀ res, (∃ f, AnT T n (Cn T n r) f 0 i acc res) → An T n (Cn T n r) i0 res) (K : ∀ (u : Cd × Nat) (Y : AI), Cn T n r (i + 1) (.inr u) → Tkn T n N Y → PsO T n N Y u.2 → OuO Y 87 (l ++ (acc ++ wO 0 ++ u.1)) → fr (qX 87) X0 Y → Rj γ mX5_readAny (4 + 2 * r) 0 0 (fun rt S' I' J' => (SS b false) = S' ∧ J = J' ∧ ∃ res, An T n (Cn T n r) i0 res ∧ RsO T n N 87 X0 l res rt I') (11, [some (.ref 95), some (.int (nI q)), some (.int 1), some (.int 1), some (.int (nI (k + 1))), none], [], (SS b false), Y, J, 0, 0)) : Rj γ mX5_readAny (4 + 2 * r) 0 0 (fun rt S' I' J' => (SS b false) = S' ∧ J = J' ∧ ∃ res, An T n (Cn T n r) i0 res ∧ RsO T n N 87 X0 l res rt I') (11, [some (.ref 95), some (.int (nI q)), some (.int 1), some (.int 0), some (.int (nI k)), none], [], (SS b false), X, J, 0, 0) := by
  have hN := hT.1
  have hiN := hP.1
  have e7 : X 95 7 = 4 := hP.2.2.1.trans h
  have hi : i < N := kK_lt hT hiN (by rw [h]; decide)
  refine r_run okX5_readAny 2 (cs := []) (σ' := (16, [some (.ref 95), some (.int (nI q)), some (.int 1), some (.int 0), some (.int (nI k)), none], [.int 800, .int (nI k)], (SS b false), X, J, 0, 0)) rfl trivial ?_
  refine r_icmp okX5_readAny rfl (fun (h16 : (800 : Int32) ≤ (nI k)) => ?_) (fun (h16 : ¬ (800 : Int32) ≤ (nI k)) => ?_)
  · exact absurd h16 (nI_ge (b := 800) (by omega) (by decide))
  · refine r_run okX5_readAny 1 (cs := []) (σ' := (20, [some (.ref 95), some (.int (nI q)), some (.int 1), some (.int 0), some (.int (nI k)), none], [.int 1], (SS b false), X, J, 0, 0)) rfl trivial ?_
    refine r_ifc okX5_readAny rfl (fun (h20 : (1 : Int32) = (0 : Int32)) => ?_) (fun (h20 : ¬ (1 : Int32) = (0 : Int32)) => ?_)
    · exact absurd h20 (by decide)
    · refine r_run okX5_readAny 3 (cs := []) (σ' := (28, [some (.ref 95), some (.int (nI q)), some (.int 1), some (.int 0), some (.int (nI k)), none], [.int 4, .int (X 95 7)], (SS b false), X, J, 0, 0)) rfl trivial ?_
      simp only [e7]
      show Rj _ _ _ _ _ _ (28, [some (.ref 95), some (.int (nI q)), some (.int 1), some (.int 0), some (.int (nI k)), none], [.int 4, .int 4], (SS b false), X, J, 0, 0)
      refine r_icmp okX5_readAny rfl (fun (h28 : (4 : Int32) = (4 : Int32)) => ?_) (fun (h28 : ¬ (4 : Int32) = (4 : Int32)) => ?_)
      · refine r_run okX5_readAny 3 (cs := []) (σ' := (44, [some (.ref 95), some (.int (nI q)), some (.int 1), some (.int 0), some (.int (nI k)), none], [.int 5, .int (X 95 7)], (SS b false), X, J, 0, 0)) rfl trivial ?_
        simp only [e7]
        show Rj _ _ _ _ _ _ (44, [some (.ref 95), some (.int (nI q)), some (.int 1), some (.int 0), some (.int (nI k)), none], [.int 5, .int 4], (SS b false), X, J, 0, 0)
        refine r_icmp okX5_readAny rfl (fun (h44 : ¬ (4 : Int32) = (5 : Int32)) => ?_) (fun h440 => ?_)
        · refine r_run okX5_readAny 3 (cs := []) (σ' := (56, [some (.ref 95), some (.int (nI q)), some (.int 1), some (.int 0), some (.int (nI k)), some (.int 0)], [.int 0], (SS b false), X, J, 0, 0)) rfl trivial ?_
          refine r_ifc okX5_readAny rfl (fun (h56 : ¬ (0 : Int32) = (0 : Int32)) => ?_) (fun h560 => ?_)
          · exact absurd h56 (by decide)
          · have h56 : (0 : Int32) = (0 : Int32) := Classical.not_not.mp h560
            refine r_run okX5_readAny 1 (cs := []) (σ' := (60, [some (.ref 95), some (.int (nI q)), some (.int 1), some (.int 0), some (.int (nI k)), some (.int 0)], [.int 0], (SS b false), X, J, 0, 0)) rfl trivial ?_
            refine r_ifc okX5_readAny rfl (fun (h60 : (0 : Int32) = (0 : Int32)) => ?_) (fun (h60 : ¬ (0 : Int32) = (0 : Int32)) => ?_)
            · refine r_run okX5_readAny 1 (cs := []) (σ' := (74, [some (.ref 95), some (.int (nI q)), some (.int 1), some (.int 0), some (.int (nI k)), some (.int 0)], [.ref 95], (SS b false), X, J, 0, 0)) rfl trivial ?_
              refine r_callV okX5_readAny okX5_advance [] [] 95 rfl rfl rfl kkX5_advance rfl rfl (by decide) rfl rfl rfl (by omega) ⟨Nat.le_refl _, Nat.le_refl _⟩ (Nat.le_of_ble_eq_true rfl) (b_adv87 γ hT hP hi) (fun v1 S1 I1 J1 hp => ?_)
              obtain ⟨rfl, rfl, ⟨fXa, pXa⟩, rfl⟩ := hp
              obtain ⟨Xa, eXa⟩ : ∃ z, z = I1 := ⟨_, rfl⟩
              subst eXa
              have hTa : Tkn T n N Xa := Tkn_k (A := 87) (by decide) (f9_X fXa) hT
              have hOa := OuO_9 (by decide) fXa hO
              have hfa : fr (qX 87) X0 Xa := fr_t hf (f9_X fXa)
              show Rj _ _ _ _ _ _ (77, [some (.ref 95), some (.int (nI q)), some (.int 1), some (.int 0), some (.int (nI k)), some (.int 0)], [], (SS b false), Xa, J, 0, 0)
              refine r_run okX5_readAny 2 (cs := []) (σ' := (79, [some (.ref 95), some (.int (nI q)), some (.int 1), some (.int 0), some (.int (nI k)), some (.int 0)], [.int (nI q), .ref 95], (SS b false), Xa, J, 0, 0)) rfl trivial ?_
              refine r_callV okX5_readAny okX5_readCondition [.int (nI q)] [] 95 rfl rfl rfl kkX5_readCondition rfl rfl (by decide) rfl rfl rfl (by omega) ⟨Nat.le_refl _, Nat.le_refl _⟩ (Nat.le_of_ble_eq_true rfl) (hC Xa J (i + 1) q _ hq hTa pXa hOa (by simp only [List.length_append, List.length_cons, List.length_nil] at *; omega)) (fun v1 S1 I1 J1 hp => ?_)
              obtain ⟨rfl, rfl, res, hc, hfr, hr⟩ := hp
              obtain ⟨Xu, eXu⟩ : ∃ z, z = I1 := ⟨_, rfl⟩
              subst eXu
              cases res with
              | inl e =>
                obtain ⟨rfl, gF, gE⟩ := hr
                have hfu : fr (qX 87) X0 Xu := fr_t hfa hfr
                have hs : AnT T n (Cn T n r) 1 0 i acc (.inl e) := by unfold AnT; rw [if_neg (by rw [h]; decide), if_pos h]; exact ⟨_, hc, Or.inl ⟨e, rfl, rfl⟩⟩
                show Rj _ _ _ _ _ _ (82, [some (.ref 95), some (.int (nI q)), some (.int 1), some (.int 0), some (.int (nI k)), some (.int 0)], [.int 0], (SS b false), Xu, J, 0, 0)
                refine r_run okX5_readAny 2 (cs := []) (σ' := (85, [some (.ref 95), some (.int (nI q)), some (.int 0), some (.int 0), some (.int (nI k)), some (.int 0)], [.int 0], (SS b false), Xu, J, 0, 0)) rfl trivial ?_
                refine r_ifc okX5_readAny rfl (fun (h85 : (0 : Int32) = (0 : Int32)) => ?_) (fun (h85 : ¬ (0 : Int32) = (0 : Int32)) => ?_)
                · refine r_run okX5_readAny 6 (cs := []) (σ' := (16, [some (.ref 95), some (.int (nI q)), some (.int 0), some (.int 1), some (.int ((nI k) + 1)), some (.int 0)], [.int 800, .int ((nI k) + 1)], (SS b false), Xu, J, 0, 0)) rfl trivial ?_
                  refine r_icmp okX5_readAny rfl (fun (h16_1 : (800 : Int32) ≤ ((nI k) + 1)) => ?_) (fun (h16_1 : ¬ (800 : Int32) ≤ ((nI k) + 1)) => ?_)
                  · refine r_run okX5_readAny 1 (cs := []) (σ' := (110, [some (.ref 95), some (.int (nI q)), some (.int 0), some (.int 1), some (.int ((nI k) + 1)), some (.int 0)], [.int 1], (SS b false), Xu, J, 0, 0)) rfl trivial ?_
                    refine r_ifc okX5_readAny rfl (fun (h110 : (1 : Int32) = (0 : Int32)) => ?_) (fun (h110 : ¬ (1 : Int32) = (0 : Int32)) => ?_)
                    · exact absurd h110 (by decide)
                    · refine r_run okX5_readAny 4 (cs := []) (σ' := (119, [some (.ref 95), some (.int (nI q)), some (.int 0), some (.int 1), some (.int ((nI k) + 1)), some (.int 0)], [.int 0, .int 4, .ref 87], (SS b false), Xu, J, 0, 0)) rfl trivial ?_
                      refine r_callV okX5_readAny okX6_add [.int 4, .int 0] [] 87 rfl rfl rfl kkX6_add rfl rfl (by decide) rfl rfl rfl (by omega) ⟨Nat.le_refl _, Nat.le_refl _⟩ (Nat.le_of_ble_eq_true rfl) (a_addF87 γ gF 4 0) (fun v1 S1 I1 J1 hp => ?_)
                      obtain ⟨⟨zXf1, rfl⟩, rfl, ⟨fXf1, oXf1⟩, rfl⟩ := hp
                      obtain ⟨Xf1, eXf1⟩ : ∃ z, z = I1 := ⟨_, rfl⟩
                      subst eXf1
                      show Rj _ _ _ _ _ _ (122, [some (.ref 95), some (.int (nI q)), some (.int 0), some (.int 1), some (.int ((nI k) + 1)), some (.int 0)], [.int zXf1], (SS b false), Xf1, J, 0, 0)
                      refine r_run okX5_readAny 2 (cs := []) (σ' := (124, [some (.ref 95), some (.int (nI q)), some (.int 0), some (.int 1), some (.int ((nI k) + 1)), some (.int 0)], [.int 0], (SS b false), Xf1, J, 0, 0)) rfl trivial ?_
                      refine r_iret okX5_readAny rfl rfl (by decide +kernel) (Nat.le_refl _) (Nat.le_refl _) ?_
                      exact ⟨rfl, rfl, .inl e, hd _ ⟨1, hs⟩, (fr_t hfu (fA_X fXf1)), rfl, oXf1, (FlO_k (A := 87) (by decide) fXf1 gE)⟩
                  · refine r_run okX5_readAny 1 (cs := []) (σ' := (20, [some (.ref 95), some (.int (nI q)), some (.int 0), some (.int 1), some (.int ((nI k) + 1)), some (.int 0)], [.int 0], (SS b false), Xu, J, 0, 0)) rfl trivial ?_
                    refine r_ifc okX5_readAny rfl (fun (h20_1 : (0 : Int32) = (0 : Int32)) => ?_) (fun (h20_1 : ¬ (0 : Int32) = (0 : Int32)) => ?_)
                    · refine r_run okX5_readAny 1 (cs := []) (σ' := (110, [some (.ref 95), some (.int (nI q)), some (.int 0), some (.int 1), some (.int ((nI k) + 1)), some (.int 0)], [.int 1], (SS b false), Xu, J, 0, 0)) rfl trivial ?_
                      refine r_ifc okX5_readAny rfl (fun (h110_1 : (1 : Int32) = (0 : Int32)) => ?_) (fun (h110_1 : ¬ (1 : Int32) = (0 : Int32)) => ?_)
                      · exact absurd h110_1 (by decide)
                      · refine r_run okX5_readAny 4 (cs := []) (σ' := (119, [some (.ref 95), some (.int (nI q)), some (.int 0), some (.int 1), some (.int ((nI k) + 1)), some (.int 0)], [.int 0, .int 4, .ref 87], (SS b false), Xu, J, 0, 0)) rfl trivial ?_
                        refine r_callV okX5_readAny okX6_add [.int 4, .int 0] [] 87 rfl rfl rfl kkX6_add rfl rfl (by decide) rfl rfl rfl (by omega) ⟨Nat.le_refl _, Nat.le_refl _⟩ (Nat.le_of_ble_eq_true rfl) (a_addF87 γ gF 4 0) (fun v1 S1 I1 J1 hp => ?_)
                        obtain ⟨⟨zXf1, rfl⟩, rfl, ⟨fXf1, oXf1⟩, rfl⟩ := hp
                        obtain ⟨Xf1, eXf1⟩ : ∃ z, z = I1 := ⟨_, rfl⟩
                        subst eXf1
                        show Rj _ _ _ _ _ _ (122, [some (.ref 95), some (.int (nI q)), some (.int 0), some (.int 1), some (.int ((nI k) + 1)), some (.int 0)], [.int zXf1], (SS b false), Xf1, J, 0, 0)
                        refine r_run okX5_readAny 2 (cs := []) (σ' := (124, [some (.ref 95), some (.int (nI q)), some (.int 0), some (.int 1), some (.int ((nI k) + 1)), some (.int 0)], [.int 0], (SS b false), Xf1, J, 0, 0)) rfl trivial ?_
                        refine r_iret okX5_readAny rfl rfl (by decide +kernel) (Nat.le_refl _) (Nat.le_refl _) ?_
                        exact ⟨rfl, rfl, .inl e, hd _ ⟨1, hs⟩, (fr_t hfu (fA_X fXf1)), rfl, oXf1, (FlO_k (A := 87) (by decide) fXf1 gE)⟩
                    · exact absurd h20_1 (by decide)
                · exact absurd h85 (by decide)
              | inr u =>
                obtain ⟨rfl, gP, gO⟩ := hr
                have hq1 := Cn_len hc
                have hq3 := len_flt u.1
                have hq2 := gP.1
                show Rj _ _ _ _ _ _ (82, [some (.ref 95), some (.int (nI q)), some (.int 1), some (.int 0), some (.int (nI k)), some (.int 0)], [.int 1], (SS b false), Xu, J, 0, 0)
                refine r_run okX5_readAny 2 (cs := []) (σ' := (85, [some (.ref 95), some (.int (nI q)), some (.int 1), some (.int 0), some (.int (nI k)), some (.int 0)], [.int 0], (SS b false), Xu, J, 0, 0)) rfl trivial ?_
                refine r_ifc okX5_readAny rfl (fun (h85_1 : (0 : Int32) = (0 : Int32)) => ?_) (fun (h85_1 : ¬ (0 : Int32) = (0 : Int32)) => ?_)
                · refine r_run okX5_readAny 4 (cs := []) (σ' := (11, [some (.ref 95), some (.int (nI q)), some (.int 1), some (.int 1), some (.int ((nI k) + 1)), some (.int 0)], [], (SS b false), Xu, J, 0, 0)) rfl trivial ?_
                  rw [← nI_succ]
                  refine r_weak (L' := [some (.ref 95), some (.int (nI q)), some (.int 1), some (.int 1), some (.int (nI (k + 1))), none]) ⟨rfl, rfl, rfl, rfl, rfl, trivial⟩ ?_
                  refine K u _ hc (Tkn_k (A := 87) (by decide) hfr hTa) gP ?_ (fr_t hfa hfr)
                  rw [show l ++ (acc ++ wO 0 ++ u.1) = l ++ acc ++ wO 0 ++ u.1 by simp only [List.append_assoc]]
                  rw [show wO 0 = [] from rfl, app_n]; exact gO
                · exact absurd h85_1 (by decide)
            · exact absurd h60 (by decide)
        · have h44 : (4 : Int32) = (5 : Int32) := Classical.not_not.mp h440
          exact absurd h44 (by decide)
      · exact absurd h28 (by decide)
theorem an_end1_87 (γ : GE) {b : Bool} {J : AJ} {T : Nat → Int32} {n N i0 r q : Nat} {l : Cd} {X0 : AI} {X : AI} {i k : Nat} {acc : Cd} (k4 : ¬ kK T n i = 4) (k5 : ¬ kK T n i = 5) (hT : Tkn T n N X) (hP : PsO T n N X i) (hO : OuO X 87 (l ++ acc)) (hl : (l ++ acc).length + 1 ≤ i) (hk : k ≤ i) (hf : fr (qX 87) X0 X) (hd : ∀ res, (∃ f, AnT T n (Cn T n r) f 1 i acc res) → An T n (Cn T n r) i0 res) : Rj γ mX5_readAny (4 + 2 * r) 0 0 (fun rt S' I' J' => (SS b false) = S' ∧ J = J' ∧ ∃ res, An T n (Cn T n r) i0 res ∧ RsO T n N 87 X0 l res rt I') (11, [some (.ref 95), some (.int (nI q)), some (.int 1), some (.int 1), some (.int (nI k)), none], [], (SS b false), X, J, 0, 0) := by
  have hN := hT.1
  have hiN := hP.1
  have e7 := hP.2.2.1
  refine r_run okX5_readAny 2 (cs := []) (σ' := (16, [some (.ref 95), some (.int (nI q)), some (.int 1), some (.int 1), some (.int (nI k)), none], [.int 800, .int (nI k)], (SS b false), X, J, 0, 0)) rfl trivial ?_
  refine r_icmp okX5_readAny rfl (fun (h16 : (800 : Int32) ≤ (nI k)) => ?_) (fun (h16 : ¬ (800 : Int32) ≤ (nI k)) => ?_)
  · refine r_run okX5_readAny 1 (cs := []) (σ' := (110, [some (.ref 95), some (.int (nI q)), some (.int 1), some (.int 1), some (.int (nI k)), none], [.int 1], (SS b false), X, J, 0, 0)) rfl trivial ?_
    refine r_ifc okX5_readAny rfl (fun (h110 : (1 : Int32) = (0 : Int32)) => ?_) (fun (h110 : ¬ (1 : Int32) = (0 : Int32)) => ?_)
    · exact absurd h110 (by decide)
    · refine r_run okX5_readAny 4 (cs := []) (σ' := (119, [some (.ref 95), some (.int (nI q)), some (.int 1), some (.int 1), some (.int (nI k)), none], [.int 0, .int 4, .ref 87], (SS b false), X, J, 0, 0)) rfl trivial ?_
      refine r_callV okX5_readAny okX6_add [.int 4, .int 0] [] 87 rfl rfl rfl kkX6_add rfl rfl (by decide) rfl rfl rfl (by omega) ⟨Nat.le_refl _, Nat.le_refl _⟩ (Nat.le_of_ble_eq_true rfl) (a_add87 γ hO (by simp only [List.length_append, List.length_cons, List.length_nil] at *; omega) (p := (11, 0)) rfl) (fun v1 S1 I1 J1 hp => ?_)
      obtain ⟨rfl, rfl, ⟨fXe, oXe⟩, rfl⟩ := hp
      obtain ⟨Xe, eXe⟩ : ∃ z, z = I1 := ⟨_, rfl⟩
      subst eXe
      show Rj _ _ _ _ _ _ (122, [some (.ref 95), some (.int (nI q)), some (.int 1), some (.int 1), some (.int (nI k)), none], [.int 1], (SS b false), Xe, J, 0, 0)
      refine r_run okX5_readAny 2 (cs := []) (σ' := (124, [some (.ref 95), some (.int (nI q)), some (.int 1), some (.int 1), some (.int (nI k)), none], [.int 1], (SS b false), Xe, J, 0, 0)) rfl trivial ?_
      refine r_iret okX5_readAny rfl rfl (by decide +kernel) (Nat.le_refl _) (Nat.le_refl _) ?_
      have hs : AnT T n (Cn T n r) 1 1 i acc (.inr (acc ++ wO 1, i)) := by
        unfold AnT; rw [if_neg k5, if_neg k4]
      exact ⟨rfl, rfl, _, hd _ ⟨1, hs⟩, fr_t hf (fA_X fXe), rfl, PsO_k (A := 87) (by decide) fXe hP, by show OuO Xe 87 (l ++ (acc ++ [(11, 0)])); rw [← List.append_assoc]; exact oXe⟩
  · refine r_run okX5_readAny 1 (cs := []) (σ' := (20, [some (.ref 95), some (.int (nI q)), some (.int 1), some (.int 1), some (.int (nI k)), none], [.int 1], (SS b false), X, J, 0, 0)) rfl trivial ?_
    refine r_ifc okX5_readAny rfl (fun (h20 : (1 : Int32) = (0 : Int32)) => ?_) (fun (h20 : ¬ (1 : Int32) = (0 : Int32)) => ?_)
    · exact absurd h20 (by decide)
    · refine r_run okX5_readAny 3 (cs := []) (σ' := (28, [some (.ref 95), some (.int (nI q)), some (.int 1), some (.int 1), some (.int (nI k)), none], [.int 4, .int (X 95 7)], (SS b false), X, J, 0, 0)) rfl trivial ?_
      simp only [e7]
      show Rj _ _ _ _ _ _ (28, [some (.ref 95), some (.int (nI q)), some (.int 1), some (.int 1), some (.int (nI k)), none], [.int 4, .int (kK T n i)], (SS b false), X, J, 0, 0)
      refine r_icmp okX5_readAny rfl (fun (h28 : (kK T n i) = (4 : Int32)) => ?_) (fun (h28 : ¬ (kK T n i) = (4 : Int32)) => ?_)
      · exact absurd h28 k4
      · refine r_run okX5_readAny 3 (cs := []) (σ' := (36, [some (.ref 95), some (.int (nI q)), some (.int 1), some (.int 1), some (.int (nI k)), none], [.int 5, .int (X 95 7)], (SS b false), X, J, 0, 0)) rfl trivial ?_
        simp only [e7]
        show Rj _ _ _ _ _ _ (36, [some (.ref 95), some (.int (nI q)), some (.int 1), some (.int 1), some (.int (nI k)), none], [.int 5, .int (kK T n i)], (SS b false), X, J, 0, 0)
        refine r_icmp okX5_readAny rfl (fun (h36 : ¬ (kK T n i) = (5 : Int32)) => ?_) (fun h360 => ?_)
        · refine r_run okX5_readAny 1 (cs := []) (σ' := (110, [some (.ref 95), some (.int (nI q)), some (.int 1), some (.int 1), some (.int (nI k)), none], [.int 1], (SS b false), X, J, 0, 0)) rfl trivial ?_
          refine r_ifc okX5_readAny rfl (fun (h110_1 : (1 : Int32) = (0 : Int32)) => ?_) (fun (h110_1 : ¬ (1 : Int32) = (0 : Int32)) => ?_)
          · exact absurd h110_1 (by decide)
          · refine r_run okX5_readAny 4 (cs := []) (σ' := (119, [some (.ref 95), some (.int (nI q)), some (.int 1), some (.int 1), some (.int (nI k)), none], [.int 0, .int 4, .ref 87], (SS b false), X, J, 0, 0)) rfl trivial ?_
            refine r_callV okX5_readAny okX6_add [.int 4, .int 0] [] 87 rfl rfl rfl kkX6_add rfl rfl (by decide) rfl rfl rfl (by omega) ⟨Nat.le_refl _, Nat.le_refl _⟩ (Nat.le_of_ble_eq_true rfl) (a_add87 γ hO (by simp only [List.length_append, List.length_cons, List.length_nil] at *; omega) (p := (11, 0)) rfl) (fun v1 S1 I1 J1 hp => ?_)
            obtain ⟨rfl, rfl, ⟨fXe, oXe⟩, rfl⟩ := hp
            obtain ⟨Xe, eXe⟩ : ∃ z, z = I1 := ⟨_, rfl⟩
            subst eXe
            show Rj _ _ _ _ _ _ (122, [some (.ref 95), some (.int (nI q)), some (.int 1), some (.int 1), some (.int (nI k)), none], [.int 1], (SS b false), Xe, J, 0, 0)
            refine r_run okX5_readAny 2 (cs := []) (σ' := (124, [some (.ref 95), some (.int (nI q)), some (.int 1), some (.int 1), some (.int (nI k)), none], [.int 1], (SS b false), Xe, J, 0, 0)) rfl trivial ?_
            refine r_iret okX5_readAny rfl rfl (by decide +kernel) (Nat.le_refl _) (Nat.le_refl _) ?_
            have hs : AnT T n (Cn T n r) 1 1 i acc (.inr (acc ++ wO 1, i)) := by
              unfold AnT; rw [if_neg k5, if_neg k4]
            exact ⟨rfl, rfl, _, hd _ ⟨1, hs⟩, fr_t hf (fA_X fXe), rfl, PsO_k (A := 87) (by decide) fXe hP, by show OuO Xe 87 (l ++ (acc ++ [(11, 0)])); rw [← List.append_assoc]; exact oXe⟩
        · have h36 : (kK T n i) = (5 : Int32) := Classical.not_not.mp h360
          exact absurd h36 k5
theorem an_5_1_87 (γ : GE) {b : Bool} {J : AJ} {T : Nat → Int32} {n N i0 r q : Nat} {l : Cd} {X0 : AI} (hC : CnC87 γ b T n N r) (hq : q + r = 8) {X : AI} {i k : Nat} {acc : Cd} (h : kK T n i = 5) (hT : Tkn T n N X) (hP : PsO T n N X i) (hO : OuO X 87 (l ++ acc)) (hl : (l ++ acc).length + 1 ≤ i) (hk : k ≤ i) (hf : fr (qX 87) X0 X) (hd : ∀ res, (∃ f, AnT T n (Cn T n r) f 1 i acc res) → An T n (Cn T n r) i0 res) (K : ∀ (u : Cd × Nat) (Y : AI), Cn T n r (i + 1) (.inr u) → Tkn T n N Y → PsO T n N Y u.2 → OuO Y 87 (l ++ (acc ++ u.1 ++ [(10, 0)])) → fr (qX 87) X0 Y → Rj γ mX5_readAny (4 + 2 * r) 0 0 (fun rt S' I' J' => (SS b false) = S' ∧ J = J' ∧ ∃ res, An T n (Cn T n r) i0 res ∧ RsO T n N 87 X0 l res rt I') (11, [some (.ref 95), some (.int (nI q)), some (.int 1), some (.int 1), some (.int (nI (k + 1))), none], [], (SS b false), Y, J, 0, 0)) : Rj γ mX5_readAny (4 + 2 * r) 0 0 (fun rt S' I' J' => (SS b false) = S' ∧ J = J' ∧ ∃ res, An T n (Cn T n r) i0 res ∧ RsO T n N 87 X0 l res rt I') (11, [some (.ref 95), some (.int (nI q)), some (.int 1), some (.int 1), some (.int (nI k)), none], [], (SS b false), X, J, 0, 0) := by
  have hN := hT.1
  have hiN := hP.1
  have e7 : X 95 7 = 5 := hP.2.2.1.trans h
  have hi : i < N := kK_lt hT hiN (by rw [h]; decide)
  refine r_run okX5_readAny 2 (cs := []) (σ' := (16, [some (.ref 95), some (.int (nI q)), some (.int 1), some (.int 1), some (.int (nI k)), none], [.int 800, .int (nI k)], (SS b false), X, J, 0, 0)) rfl trivial ?_
  refine r_icmp okX5_readAny rfl (fun (h16 : (800 : Int32) ≤ (nI k)) => ?_) (fun (h16 : ¬ (800 : Int32) ≤ (nI k)) => ?_)
  · exact absurd h16 (nI_ge (b := 800) (by omega) (by decide))
  · refine r_run okX5_readAny 1 (cs := []) (σ' := (20, [some (.ref 95), some (.int (nI q)), some (.int 1), some (.int 1), some (.int (nI k)), none], [.int 1], (SS b false), X, J, 0, 0)) rfl trivial ?_
    refine r_ifc okX5_readAny rfl (fun (h20 : (1 : Int32) = (0 : Int32)) => ?_) (fun (h20 : ¬ (1 : Int32) = (0 : Int32)) => ?_)
    · exact absurd h20 (by decide)
    · refine r_run okX5_readAny 3 (cs := []) (σ' := (28, [some (.ref 95), some (.int (nI q)), some (.int 1), some (.int 1), some (.int (nI k)), none], [.int 4, .int (X 95 7)], (SS b false), X, J, 0, 0)) rfl trivial ?_
      simp only [e7]
      show Rj _ _ _ _ _ _ (28, [some (.ref 95), some (.int (nI q)), some (.int 1), some (.int 1), some (.int (nI k)), none], [.int 4, .int 5], (SS b false), X, J, 0, 0)
      refine r_icmp okX5_readAny rfl (fun (h28 : (5 : Int32) = (4 : Int32)) => ?_) (fun (h28 : ¬ (5 : Int32) = (4 : Int32)) => ?_)
      · exact absurd h28 (by decide)
      · refine r_run okX5_readAny 3 (cs := []) (σ' := (36, [some (.ref 95), some (.int (nI q)), some (.int 1), some (.int 1), some (.int (nI k)), none], [.int 5, .int (X 95 7)], (SS b false), X, J, 0, 0)) rfl trivial ?_
        simp only [e7]
        show Rj _ _ _ _ _ _ (36, [some (.ref 95), some (.int (nI q)), some (.int 1), some (.int 1), some (.int (nI k)), none], [.int 5, .int 5], (SS b false), X, J, 0, 0)
        refine r_icmp okX5_readAny rfl (fun (h36 : ¬ (5 : Int32) = (5 : Int32)) => ?_) (fun h360 => ?_)
        · exact absurd h36 (by decide)
        · have h36 : (5 : Int32) = (5 : Int32) := Classical.not_not.mp h360
          refine r_run okX5_readAny 3 (cs := []) (σ' := (44, [some (.ref 95), some (.int (nI q)), some (.int 1), some (.int 1), some (.int (nI k)), none], [.int 5, .int (X 95 7)], (SS b false), X, J, 0, 0)) rfl trivial ?_
          simp only [e7]
          show Rj _ _ _ _ _ _ (44, [some (.ref 95), some (.int (nI q)), some (.int 1), some (.int 1), some (.int (nI k)), none], [.int 5, .int 5], (SS b false), X, J, 0, 0)
          refine r_icmp okX5_readAny rfl (fun (h44 : ¬ (5 : Int32) = (5 : Int32)) => ?_) (fun h440 => ?_)
          · exact absurd h44 (by decide)
          · have h44 : (5 : Int32) = (5 : Int32) := Classical.not_not.mp h440
            refine r_run okX5_readAny 4 (cs := []) (σ' := (56, [some (.ref 95), some (.int (nI q)), some (.int 1), some (.int 1), some (.int (nI k)), some (.int 1)], [.int 1], (SS b false), X, J, 0, 0)) rfl trivial ?_
            refine r_ifc okX5_readAny rfl (fun (h56 : ¬ (1 : Int32) = (0 : Int32)) => ?_) (fun h560 => ?_)
            · refine r_run okX5_readAny 1 (cs := []) (σ' := (74, [some (.ref 95), some (.int (nI q)), some (.int 1), some (.int 1), some (.int (nI k)), some (.int 1)], [.ref 95], (SS b false), X, J, 0, 0)) rfl trivial ?_
              refine r_callV okX5_readAny okX5_advance [] [] 95 rfl rfl rfl kkX5_advance rfl rfl (by decide) rfl rfl rfl (by omega) ⟨Nat.le_refl _, Nat.le_refl _⟩ (Nat.le_of_ble_eq_true rfl) (b_adv87 γ hT hP hi) (fun v1 S1 I1 J1 hp => ?_)
              obtain ⟨rfl, rfl, ⟨fXa, pXa⟩, rfl⟩ := hp
              obtain ⟨Xa, eXa⟩ : ∃ z, z = I1 := ⟨_, rfl⟩
              subst eXa
              have hTa : Tkn T n N Xa := Tkn_k (A := 87) (by decide) (f9_X fXa) hT
              have hOa := OuO_9 (by decide) fXa hO
              have hfa : fr (qX 87) X0 Xa := fr_t hf (f9_X fXa)
              show Rj _ _ _ _ _ _ (77, [some (.ref 95), some (.int (nI q)), some (.int 1), some (.int 1), some (.int (nI k)), some (.int 1)], [], (SS b false), Xa, J, 0, 0)
              refine r_run okX5_readAny 2 (cs := []) (σ' := (79, [some (.ref 95), some (.int (nI q)), some (.int 1), some (.int 1), some (.int (nI k)), some (.int 1)], [.int (nI q), .ref 95], (SS b false), Xa, J, 0, 0)) rfl trivial ?_
              refine r_callV okX5_readAny okX5_readCondition [.int (nI q)] [] 95 rfl rfl rfl kkX5_readCondition rfl rfl (by decide) rfl rfl rfl (by omega) ⟨Nat.le_refl _, Nat.le_refl _⟩ (Nat.le_of_ble_eq_true rfl) (hC Xa J (i + 1) q _ hq hTa pXa hOa (by simp only [List.length_append, List.length_cons, List.length_nil] at *; omega)) (fun v1 S1 I1 J1 hp => ?_)
              obtain ⟨rfl, rfl, res, hc, hfr, hr⟩ := hp
              obtain ⟨Xu, eXu⟩ : ∃ z, z = I1 := ⟨_, rfl⟩
              subst eXu
              cases res with
              | inl e =>
                obtain ⟨rfl, gF, gE⟩ := hr
                have hfu : fr (qX 87) X0 Xu := fr_t hfa hfr
                have hs : AnT T n (Cn T n r) 1 1 i acc (.inl e) := by unfold AnT; rw [if_pos h]; exact ⟨_, hc, Or.inl ⟨e, rfl, rfl⟩⟩
                show Rj _ _ _ _ _ _ (82, [some (.ref 95), some (.int (nI q)), some (.int 1), some (.int 1), some (.int (nI k)), some (.int 1)], [.int 0], (SS b false), Xu, J, 0, 0)
                refine r_run okX5_readAny 2 (cs := []) (σ' := (85, [some (.ref 95), some (.int (nI q)), some (.int 0), some (.int 1), some (.int (nI k)), some (.int 1)], [.int 1], (SS b false), Xu, J, 0, 0)) rfl trivial ?_
                refine r_ifc okX5_readAny rfl (fun (h85 : (1 : Int32) = (0 : Int32)) => ?_) (fun (h85 : ¬ (1 : Int32) = (0 : Int32)) => ?_)
                · exact absurd h85 (by decide)
                · refine r_run okX5_readAny 4 (cs := []) (σ' := (94, [some (.ref 95), some (.int (nI q)), some (.int 0), some (.int 1), some (.int (nI k)), some (.int 1)], [.int 0, .int 5, .ref 87], (SS b false), Xu, J, 0, 0)) rfl trivial ?_
                  refine r_callV okX5_readAny okX6_add [.int 5, .int 0] [] 87 rfl rfl rfl kkX6_add rfl rfl (by decide) rfl rfl rfl (by omega) ⟨Nat.le_refl _, Nat.le_refl _⟩ (Nat.le_of_ble_eq_true rfl) (a_addF87 γ gF 5 0) (fun v1 S1 I1 J1 hp => ?_)
                  obtain ⟨⟨zXf1, rfl⟩, rfl, ⟨fXf1, oXf1⟩, rfl⟩ := hp
                  obtain ⟨Xf1, eXf1⟩ : ∃ z, z = I1 := ⟨_, rfl⟩
                  subst eXf1
                  show Rj _ _ _ _ _ _ (97, [some (.ref 95), some (.int (nI q)), some (.int 0), some (.int 1), some (.int (nI k)), some (.int 1)], [.int zXf1], (SS b false), Xf1, J, 0, 0)
                  refine r_run okX5_readAny 6 (cs := []) (σ' := (16, [some (.ref 95), some (.int (nI q)), some (.int 0), some (.int 1), some (.int ((nI k) + 1)), some (.int 1)], [.int 800, .int ((nI k) + 1)], (SS b false), Xf1, J, 0, 0)) rfl trivial ?_
                  refine r_icmp okX5_readAny rfl (fun (h16_1 : (800 : Int32) ≤ ((nI k) + 1)) => ?_) (fun (h16_1 : ¬ (800 : Int32) ≤ ((nI k) + 1)) => ?_)
                  · refine r_run okX5_readAny 1 (cs := []) (σ' := (110, [some (.ref 95), some (.int (nI q)), some (.int 0), some (.int 1), some (.int ((nI k) + 1)), some (.int 1)], [.int 1], (SS b false), Xf1, J, 0, 0)) rfl trivial ?_
                    refine r_ifc okX5_readAny rfl (fun (h110 : (1 : Int32) = (0 : Int32)) => ?_) (fun (h110 : ¬ (1 : Int32) = (0 : Int32)) => ?_)
                    · exact absurd h110 (by decide)
                    · refine r_run okX5_readAny 4 (cs := []) (σ' := (119, [some (.ref 95), some (.int (nI q)), some (.int 0), some (.int 1), some (.int ((nI k) + 1)), some (.int 1)], [.int 0, .int 4, .ref 87], (SS b false), Xf1, J, 0, 0)) rfl trivial ?_
                      refine r_callV okX5_readAny okX6_add [.int 4, .int 0] [] 87 rfl rfl rfl kkX6_add rfl rfl (by decide) rfl rfl rfl (by omega) ⟨Nat.le_refl _, Nat.le_refl _⟩ (Nat.le_of_ble_eq_true rfl) (a_addF87 γ oXf1 4 0) (fun v1 S1 I1 J1 hp => ?_)
                      obtain ⟨⟨zXf2, rfl⟩, rfl, ⟨fXf2, oXf2⟩, rfl⟩ := hp
                      obtain ⟨Xf2, eXf2⟩ : ∃ z, z = I1 := ⟨_, rfl⟩
                      subst eXf2
                      show Rj _ _ _ _ _ _ (122, [some (.ref 95), some (.int (nI q)), some (.int 0), some (.int 1), some (.int ((nI k) + 1)), some (.int 1)], [.int zXf2], (SS b false), Xf2, J, 0, 0)
                      refine r_run okX5_readAny 2 (cs := []) (σ' := (124, [some (.ref 95), some (.int (nI q)), some (.int 0), some (.int 1), some (.int ((nI k) + 1)), some (.int 1)], [.int 0], (SS b false), Xf2, J, 0, 0)) rfl trivial ?_
                      refine r_iret okX5_readAny rfl rfl (by decide +kernel) (Nat.le_refl _) (Nat.le_refl _) ?_
                      exact ⟨rfl, rfl, .inl e, hd _ ⟨1, hs⟩, (fr_t (fr_t hfu (fA_X fXf1)) (fA_X fXf2)), rfl, oXf2, (FlO_k (A := 87) (by decide) fXf2 (FlO_k (A := 87) (by decide) fXf1 gE))⟩
                  · refine r_run okX5_readAny 1 (cs := []) (σ' := (20, [some (.ref 95), some (.int (nI q)), some (.int 0), some (.int 1), some (.int ((nI k) + 1)), some (.int 1)], [.int 0], (SS b false), Xf1, J, 0, 0)) rfl trivial ?_
                    refine r_ifc okX5_readAny rfl (fun (h20_1 : (0 : Int32) = (0 : Int32)) => ?_) (fun (h20_1 : ¬ (0 : Int32) = (0 : Int32)) => ?_)
                    · refine r_run okX5_readAny 1 (cs := []) (σ' := (110, [some (.ref 95), some (.int (nI q)), some (.int 0), some (.int 1), some (.int ((nI k) + 1)), some (.int 1)], [.int 1], (SS b false), Xf1, J, 0, 0)) rfl trivial ?_
                      refine r_ifc okX5_readAny rfl (fun (h110_1 : (1 : Int32) = (0 : Int32)) => ?_) (fun (h110_1 : ¬ (1 : Int32) = (0 : Int32)) => ?_)
                      · exact absurd h110_1 (by decide)
                      · refine r_run okX5_readAny 4 (cs := []) (σ' := (119, [some (.ref 95), some (.int (nI q)), some (.int 0), some (.int 1), some (.int ((nI k) + 1)), some (.int 1)], [.int 0, .int 4, .ref 87], (SS b false), Xf1, J, 0, 0)) rfl trivial ?_
                        refine r_callV okX5_readAny okX6_add [.int 4, .int 0] [] 87 rfl rfl rfl kkX6_add rfl rfl (by decide) rfl rfl rfl (by omega) ⟨Nat.le_refl _, Nat.le_refl _⟩ (Nat.le_of_ble_eq_true rfl) (a_addF87 γ oXf1 4 0) (fun v1 S1 I1 J1 hp => ?_)
                        obtain ⟨⟨zXf2, rfl⟩, rfl, ⟨fXf2, oXf2⟩, rfl⟩ := hp
                        obtain ⟨Xf2, eXf2⟩ : ∃ z, z = I1 := ⟨_, rfl⟩
                        subst eXf2
                        show Rj _ _ _ _ _ _ (122, [some (.ref 95), some (.int (nI q)), some (.int 0), some (.int 1), some (.int ((nI k) + 1)), some (.int 1)], [.int zXf2], (SS b false), Xf2, J, 0, 0)
                        refine r_run okX5_readAny 2 (cs := []) (σ' := (124, [some (.ref 95), some (.int (nI q)), some (.int 0), some (.int 1), some (.int ((nI k) + 1)), some (.int 1)], [.int 0], (SS b false), Xf2, J, 0, 0)) rfl trivial ?_
                        refine r_iret okX5_readAny rfl rfl (by decide +kernel) (Nat.le_refl _) (Nat.le_refl _) ?_
                        exact ⟨rfl, rfl, .inl e, hd _ ⟨1, hs⟩, (fr_t (fr_t hfu (fA_X fXf1)) (fA_X fXf2)), rfl, oXf2, (FlO_k (A := 87) (by decide) fXf2 (FlO_k (A := 87) (by decide) fXf1 gE))⟩
                    · exact absurd h20_1 (by decide)
              | inr u =>
                obtain ⟨rfl, gP, gO⟩ := hr
                have hq1 := Cn_len hc
                have hq3 := len_flt u.1
                have hq2 := gP.1
                show Rj _ _ _ _ _ _ (82, [some (.ref 95), some (.int (nI q)), some (.int 1), some (.int 1), some (.int (nI k)), some (.int 1)], [.int 1], (SS b false), Xu, J, 0, 0)
                refine r_run okX5_readAny 2 (cs := []) (σ' := (85, [some (.ref 95), some (.int (nI q)), some (.int 1), some (.int 1), some (.int (nI k)), some (.int 1)], [.int 1], (SS b false), Xu, J, 0, 0)) rfl trivial ?_
                refine r_ifc okX5_readAny rfl (fun (h85_1 : (1 : Int32) = (0 : Int32)) => ?_) (fun (h85_1 : ¬ (1 : Int32) = (0 : Int32)) => ?_)
                · exact absurd h85_1 (by decide)
                · refine r_run okX5_readAny 4 (cs := []) (σ' := (94, [some (.ref 95), some (.int (nI q)), some (.int 1), some (.int 1), some (.int (nI k)), some (.int 1)], [.int 0, .int 5, .ref 87], (SS b false), Xu, J, 0, 0)) rfl trivial ?_
                  refine r_callV okX5_readAny okX6_add [.int 5, .int 0] [] 87 rfl rfl rfl kkX6_add rfl rfl (by decide) rfl rfl rfl (by omega) ⟨Nat.le_refl _, Nat.le_refl _⟩ (Nat.le_of_ble_eq_true rfl) (a_add87 γ gO (by simp only [List.length_append, List.length_cons, List.length_nil] at *; omega) (p := (10, 0)) rfl) (fun v1 S1 I1 J1 hp => ?_)
                  obtain ⟨rfl, rfl, ⟨fXg, oXg⟩, rfl⟩ := hp
                  obtain ⟨Xg, eXg⟩ : ∃ z, z = I1 := ⟨_, rfl⟩
                  subst eXg
                  show Rj _ _ _ _ _ _ (97, [some (.ref 95), some (.int (nI q)), some (.int 1), some (.int 1), some (.int (nI k)), some (.int 1)], [.int 1], (SS b false), Xg, J, 0, 0)
                  refine r_run okX5_readAny 4 (cs := []) (σ' := (11, [some (.ref 95), some (.int (nI q)), some (.int 1), some (.int 1), some (.int ((nI k) + 1)), some (.int 1)], [], (SS b false), Xg, J, 0, 0)) rfl trivial ?_
                  rw [← nI_succ]
                  refine r_weak (L' := [some (.ref 95), some (.int (nI q)), some (.int 1), some (.int 1), some (.int (nI (k + 1))), none]) ⟨rfl, rfl, rfl, rfl, rfl, trivial⟩ ?_
                  refine K u _ hc (Tkn_k (A := 87) (by decide) (fA_X fXg) (Tkn_k (A := 87) (by decide) hfr hTa)) (PsO_k (A := 87) (by decide) fXg gP) ?_ (fr_t (fr_t hfa hfr) (fA_X fXg))
                  rw [show l ++ (acc ++ u.1 ++ [(10, 0)]) = l ++ acc ++ u.1 ++ [(10, 0)] by simp only [List.append_assoc]]
                  exact oXg
            · have h56 : (1 : Int32) = (0 : Int32) := Classical.not_not.mp h560
              exact absurd h56 (by decide)
theorem an_4_1_87 (γ : GE) {b : Bool} {J : AJ} {T : Nat → Int32} {n N i0 r q : Nat} {l : Cd} {X0 : AI} (hC : CnC87 γ b T n N r) (hq : q + r = 8) {X : AI} {i k : Nat} {acc : Cd} (h : kK T n i = 4) (hT : Tkn T n N X) (hP : PsO T n N X i) (hO : OuO X 87 (l ++ acc)) (hl : (l ++ acc).length + 1 ≤ i) (hk : k ≤ i) (hf : fr (qX 87) X0 X) (hd : ∀ res, (∃ f, AnT T n (Cn T n r) f 1 i acc res) → An T n (Cn T n r) i0 res) (K : ∀ (u : Cd × Nat) (Y : AI), Cn T n r (i + 1) (.inr u) → Tkn T n N Y → PsO T n N Y u.2 → OuO Y 87 (l ++ (acc ++ wO 1 ++ u.1)) → fr (qX 87) X0 Y → Rj γ mX5_readAny (4 + 2 * r) 0 0 (fun rt S' I' J' => (SS b false) = S' ∧ J = J' ∧ ∃ res, An T n (Cn T n r) i0 res ∧ RsO T n N 87 X0 l res rt I') (11, [some (.ref 95), some (.int (nI q)), some (.int 1), some (.int 1), some (.int (nI (k + 1))), none], [], (SS b false), Y, J, 0, 0)) : Rj γ mX5_readAny (4 + 2 * r) 0 0 (fun rt S' I' J' => (SS b false) = S' ∧ J = J' ∧ ∃ res, An T n (Cn T n r) i0 res ∧ RsO T n N 87 X0 l res rt I') (11, [some (.ref 95), some (.int (nI q)), some (.int 1), some (.int 1), some (.int (nI k)), none], [], (SS b false), X, J, 0, 0) := by
  have hN := hT.1
  have hiN := hP.1
  have e7 : X 95 7 = 4 := hP.2.2.1.trans h
  have hi : i < N := kK_lt hT hiN (by rw [h]; decide)
  refine r_run okX5_readAny 2 (cs := []) (σ' := (16, [some (.ref 95), some (.int (nI q)), some (.int 1), some (.int 1), some (.int (nI k)), none], [.int 800, .int (nI k)], (SS b false), X, J, 0, 0)) rfl trivial ?_
  refine r_icmp okX5_readAny rfl (fun (h16 : (800 : Int32) ≤ (nI k)) => ?_) (fun (h16 : ¬ (800 : Int32) ≤ (nI k)) => ?_)
  · exact absurd h16 (nI_ge (b := 800) (by omega) (by decide))
  · refine r_run okX5_readAny 1 (cs := []) (σ' := (20, [some (.ref 95), some (.int (nI q)), some (.int 1), some (.int 1), some (.int (nI k)), none], [.int 1], (SS b false), X, J, 0, 0)) rfl trivial ?_
    refine r_ifc okX5_readAny rfl (fun (h20 : (1 : Int32) = (0 : Int32)) => ?_) (fun (h20 : ¬ (1 : Int32) = (0 : Int32)) => ?_)
    · exact absurd h20 (by decide)
    · refine r_run okX5_readAny 3 (cs := []) (σ' := (28, [some (.ref 95), some (.int (nI q)), some (.int 1), some (.int 1), some (.int (nI k)), none], [.int 4, .int (X 95 7)], (SS b false), X, J, 0, 0)) rfl trivial ?_
      simp only [e7]
      show Rj _ _ _ _ _ _ (28, [some (.ref 95), some (.int (nI q)), some (.int 1), some (.int 1), some (.int (nI k)), none], [.int 4, .int 4], (SS b false), X, J, 0, 0)
      refine r_icmp okX5_readAny rfl (fun (h28 : (4 : Int32) = (4 : Int32)) => ?_) (fun (h28 : ¬ (4 : Int32) = (4 : Int32)) => ?_)
      · refine r_run okX5_readAny 3 (cs := []) (σ' := (44, [some (.ref 95), some (.int (nI q)), some (.int 1), some (.int 1), some (.int (nI k)), none], [.int 5, .int (X 95 7)], (SS b false), X, J, 0, 0)) rfl trivial ?_
        simp only [e7]
        show Rj _ _ _ _ _ _ (44, [some (.ref 95), some (.int (nI q)), some (.int 1), some (.int 1), some (.int (nI k)), none], [.int 5, .int 4], (SS b false), X, J, 0, 0)
        refine r_icmp okX5_readAny rfl (fun (h44 : ¬ (4 : Int32) = (5 : Int32)) => ?_) (fun h440 => ?_)
        · refine r_run okX5_readAny 3 (cs := []) (σ' := (56, [some (.ref 95), some (.int (nI q)), some (.int 1), some (.int 1), some (.int (nI k)), some (.int 0)], [.int 0], (SS b false), X, J, 0, 0)) rfl trivial ?_
          refine r_ifc okX5_readAny rfl (fun (h56 : ¬ (0 : Int32) = (0 : Int32)) => ?_) (fun h560 => ?_)
          · exact absurd h56 (by decide)
          · have h56 : (0 : Int32) = (0 : Int32) := Classical.not_not.mp h560
            refine r_run okX5_readAny 1 (cs := []) (σ' := (60, [some (.ref 95), some (.int (nI q)), some (.int 1), some (.int 1), some (.int (nI k)), some (.int 0)], [.int 1], (SS b false), X, J, 0, 0)) rfl trivial ?_
            refine r_ifc okX5_readAny rfl (fun (h60 : (1 : Int32) = (0 : Int32)) => ?_) (fun (h60 : ¬ (1 : Int32) = (0 : Int32)) => ?_)
            · exact absurd h60 (by decide)
            · refine r_run okX5_readAny 4 (cs := []) (σ' := (69, [some (.ref 95), some (.int (nI q)), some (.int 1), some (.int 1), some (.int (nI k)), some (.int 0)], [.int 0, .int 4, .ref 87], (SS b false), X, J, 0, 0)) rfl trivial ?_
              refine r_callV okX5_readAny okX6_add [.int 4, .int 0] [] 87 rfl rfl rfl kkX6_add rfl rfl (by decide) rfl rfl rfl (by omega) ⟨Nat.le_refl _, Nat.le_refl _⟩ (Nat.le_of_ble_eq_true rfl) (a_add87 γ hO (by simp only [List.length_append, List.length_cons, List.length_nil] at *; omega) (p := (11, 0)) rfl) (fun v1 S1 I1 J1 hp => ?_)
              obtain ⟨rfl, rfl, ⟨fXw, oXw⟩, rfl⟩ := hp
              obtain ⟨Xw, eXw⟩ : ∃ z, z = I1 := ⟨_, rfl⟩
              subst eXw
              show Rj _ _ _ _ _ _ (72, [some (.ref 95), some (.int (nI q)), some (.int 1), some (.int 1), some (.int (nI k)), some (.int 0)], [.int 1], (SS b false), Xw, J, 0, 0)
              refine r_run okX5_readAny 2 (cs := []) (σ' := (74, [some (.ref 95), some (.int (nI q)), some (.int 1), some (.int 1), some (.int (nI k)), some (.int 0)], [.ref 95], (SS b false), Xw, J, 0, 0)) rfl trivial ?_
              refine r_callV okX5_readAny okX5_advance [] [] 95 rfl rfl rfl kkX5_advance rfl rfl (by decide) rfl rfl rfl (by omega) ⟨Nat.le_refl _, Nat.le_refl _⟩ (Nat.le_of_ble_eq_true rfl) (b_adv87 γ (Tkn_k (A := 87) (by decide) (fA_X fXw) hT) (PsO_k (A := 87) (by decide) fXw hP) hi) (fun v1 S1 I1 J1 hp => ?_)
              obtain ⟨rfl, rfl, ⟨fXa, pXa⟩, rfl⟩ := hp
              obtain ⟨Xa, eXa⟩ : ∃ z, z = I1 := ⟨_, rfl⟩
              subst eXa
              have hTa : Tkn T n N Xa := Tkn_k (A := 87) (by decide) (f9_X fXa) (Tkn_k (A := 87) (by decide) (fA_X fXw) hT)
              have hOa := OuO_9 (by decide) fXa oXw
              have hfa : fr (qX 87) X0 Xa := fr_t hf (fr_t (fA_X fXw) (f9_X fXa))
              show Rj _ _ _ _ _ _ (77, [some (.ref 95), some (.int (nI q)), some (.int 1), some (.int 1), some (.int (nI k)), some (.int 0)], [], (SS b false), Xa, J, 0, 0)
              refine r_run okX5_readAny 2 (cs := []) (σ' := (79, [some (.ref 95), some (.int (nI q)), some (.int 1), some (.int 1), some (.int (nI k)), some (.int 0)], [.int (nI q), .ref 95], (SS b false), Xa, J, 0, 0)) rfl trivial ?_
              refine r_callV okX5_readAny okX5_readCondition [.int (nI q)] [] 95 rfl rfl rfl kkX5_readCondition rfl rfl (by decide) rfl rfl rfl (by omega) ⟨Nat.le_refl _, Nat.le_refl _⟩ (Nat.le_of_ble_eq_true rfl) (hC Xa J (i + 1) q _ hq hTa pXa hOa (by simp only [List.length_append, List.length_cons, List.length_nil] at *; omega)) (fun v1 S1 I1 J1 hp => ?_)
              obtain ⟨rfl, rfl, res, hc, hfr, hr⟩ := hp
              obtain ⟨Xu, eXu⟩ : ∃ z, z = I1 := ⟨_, rfl⟩
              subst eXu
              cases res with
              | inl e =>
                obtain ⟨rfl, gF, gE⟩ := hr
                have hfu : fr (qX 87) X0 Xu := fr_t hfa hfr
                have hs : AnT T n (Cn T n r) 1 1 i acc (.inl e) := by unfold AnT; rw [if_neg (by rw [h]; decide), if_pos h]; exact ⟨_, hc, Or.inl ⟨e, rfl, rfl⟩⟩
                show Rj _ _ _ _ _ _ (82, [some (.ref 95), some (.int (nI q)), some (.int 1), some (.int 1), some (.int (nI k)), some (.int 0)], [.int 0], (SS b false), Xu, J, 0, 0)
                refine r_run okX5_readAny 2 (cs := []) (σ' := (85, [some (.ref 95), some (.int (nI q)), some (.int 0), some (.int 1), some (.int (nI k)), some (.int 0)], [.int 0], (SS b false), Xu, J, 0, 0)) rfl trivial ?_
                refine r_ifc okX5_readAny rfl (fun (h85 : (0 : Int32) = (0 : Int32)) => ?_) (fun (h85 : ¬ (0 : Int32) = (0 : Int32)) => ?_)
                · refine r_run okX5_readAny 6 (cs := []) (σ' := (16, [some (.ref 95), some (.int (nI q)), some (.int 0), some (.int 1), some (.int ((nI k) + 1)), some (.int 0)], [.int 800, .int ((nI k) + 1)], (SS b false), Xu, J, 0, 0)) rfl trivial ?_
                  refine r_icmp okX5_readAny rfl (fun (h16_1 : (800 : Int32) ≤ ((nI k) + 1)) => ?_) (fun (h16_1 : ¬ (800 : Int32) ≤ ((nI k) + 1)) => ?_)
                  · refine r_run okX5_readAny 1 (cs := []) (σ' := (110, [some (.ref 95), some (.int (nI q)), some (.int 0), some (.int 1), some (.int ((nI k) + 1)), some (.int 0)], [.int 1], (SS b false), Xu, J, 0, 0)) rfl trivial ?_
                    refine r_ifc okX5_readAny rfl (fun (h110 : (1 : Int32) = (0 : Int32)) => ?_) (fun (h110 : ¬ (1 : Int32) = (0 : Int32)) => ?_)
                    · exact absurd h110 (by decide)
                    · refine r_run okX5_readAny 4 (cs := []) (σ' := (119, [some (.ref 95), some (.int (nI q)), some (.int 0), some (.int 1), some (.int ((nI k) + 1)), some (.int 0)], [.int 0, .int 4, .ref 87], (SS b false), Xu, J, 0, 0)) rfl trivial ?_
                      refine r_callV okX5_readAny okX6_add [.int 4, .int 0] [] 87 rfl rfl rfl kkX6_add rfl rfl (by decide) rfl rfl rfl (by omega) ⟨Nat.le_refl _, Nat.le_refl _⟩ (Nat.le_of_ble_eq_true rfl) (a_addF87 γ gF 4 0) (fun v1 S1 I1 J1 hp => ?_)
                      obtain ⟨⟨zXf1, rfl⟩, rfl, ⟨fXf1, oXf1⟩, rfl⟩ := hp
                      obtain ⟨Xf1, eXf1⟩ : ∃ z, z = I1 := ⟨_, rfl⟩
                      subst eXf1
                      show Rj _ _ _ _ _ _ (122, [some (.ref 95), some (.int (nI q)), some (.int 0), some (.int 1), some (.int ((nI k) + 1)), some (.int 0)], [.int zXf1], (SS b false), Xf1, J, 0, 0)
                      refine r_run okX5_readAny 2 (cs := []) (σ' := (124, [some (.ref 95), some (.int (nI q)), some (.int 0), some (.int 1), some (.int ((nI k) + 1)), some (.int 0)], [.int 0], (SS b false), Xf1, J, 0, 0)) rfl trivial ?_
                      refine r_iret okX5_readAny rfl rfl (by decide +kernel) (Nat.le_refl _) (Nat.le_refl _) ?_
                      exact ⟨rfl, rfl, .inl e, hd _ ⟨1, hs⟩, (fr_t hfu (fA_X fXf1)), rfl, oXf1, (FlO_k (A := 87) (by decide) fXf1 gE)⟩
                  · refine r_run okX5_readAny 1 (cs := []) (σ' := (20, [some (.ref 95), some (.int (nI q)), some (.int 0), some (.int 1), some (.int ((nI k) + 1)), some (.int 0)], [.int 0], (SS b false), Xu, J, 0, 0)) rfl trivial ?_
                    refine r_ifc okX5_readAny rfl (fun (h20_1 : (0 : Int32) = (0 : Int32)) => ?_) (fun (h20_1 : ¬ (0 : Int32) = (0 : Int32)) => ?_)
                    · refine r_run okX5_readAny 1 (cs := []) (σ' := (110, [some (.ref 95), some (.int (nI q)), some (.int 0), some (.int 1), some (.int ((nI k) + 1)), some (.int 0)], [.int 1], (SS b false), Xu, J, 0, 0)) rfl trivial ?_
                      refine r_ifc okX5_readAny rfl (fun (h110_1 : (1 : Int32) = (0 : Int32)) => ?_) (fun (h110_1 : ¬ (1 : Int32) = (0 : Int32)) => ?_)
                      · exact absurd h110_1 (by decide)
                      · refine r_run okX5_readAny 4 (cs := []) (σ' := (119, [some (.ref 95), some (.int (nI q)), some (.int 0), some (.int 1), some (.int ((nI k) + 1)), some (.int 0)], [.int 0, .int 4, .ref 87], (SS b false), Xu, J, 0, 0)) rfl trivial ?_
                        refine r_callV okX5_readAny okX6_add [.int 4, .int 0] [] 87 rfl rfl rfl kkX6_add rfl rfl (by decide) rfl rfl rfl (by omega) ⟨Nat.le_refl _, Nat.le_refl _⟩ (Nat.le_of_ble_eq_true rfl) (a_addF87 γ gF 4 0) (fun v1 S1 I1 J1 hp => ?_)
                        obtain ⟨⟨zXf1, rfl⟩, rfl, ⟨fXf1, oXf1⟩, rfl⟩ := hp
                        obtain ⟨Xf1, eXf1⟩ : ∃ z, z = I1 := ⟨_, rfl⟩
                        subst eXf1
                        show Rj _ _ _ _ _ _ (122, [some (.ref 95), some (.int (nI q)), some (.int 0), some (.int 1), some (.int ((nI k) + 1)), some (.int 0)], [.int zXf1], (SS b false), Xf1, J, 0, 0)
                        refine r_run okX5_readAny 2 (cs := []) (σ' := (124, [some (.ref 95), some (.int (nI q)), some (.int 0), some (.int 1), some (.int ((nI k) + 1)), some (.int 0)], [.int 0], (SS b false), Xf1, J, 0, 0)) rfl trivial ?_
                        refine r_iret okX5_readAny rfl rfl (by decide +kernel) (Nat.le_refl _) (Nat.le_refl _) ?_
                        exact ⟨rfl, rfl, .inl e, hd _ ⟨1, hs⟩, (fr_t hfu (fA_X fXf1)), rfl, oXf1, (FlO_k (A := 87) (by decide) fXf1 gE)⟩
                    · exact absurd h20_1 (by decide)
                · exact absurd h85 (by decide)
              | inr u =>
                obtain ⟨rfl, gP, gO⟩ := hr
                have hq1 := Cn_len hc
                have hq3 := len_flt u.1
                have hq2 := gP.1
                show Rj _ _ _ _ _ _ (82, [some (.ref 95), some (.int (nI q)), some (.int 1), some (.int 1), some (.int (nI k)), some (.int 0)], [.int 1], (SS b false), Xu, J, 0, 0)
                refine r_run okX5_readAny 2 (cs := []) (σ' := (85, [some (.ref 95), some (.int (nI q)), some (.int 1), some (.int 1), some (.int (nI k)), some (.int 0)], [.int 0], (SS b false), Xu, J, 0, 0)) rfl trivial ?_
                refine r_ifc okX5_readAny rfl (fun (h85_1 : (0 : Int32) = (0 : Int32)) => ?_) (fun (h85_1 : ¬ (0 : Int32) = (0 : Int32)) => ?_)
                · refine r_run okX5_readAny 4 (cs := []) (σ' := (11, [some (.ref 95), some (.int (nI q)), some (.int 1), some (.int 1), some (.int ((nI k) + 1)), some (.int 0)], [], (SS b false), Xu, J, 0, 0)) rfl trivial ?_
                  rw [← nI_succ]
                  refine r_weak (L' := [some (.ref 95), some (.int (nI q)), some (.int 1), some (.int 1), some (.int (nI (k + 1))), none]) ⟨rfl, rfl, rfl, rfl, rfl, trivial⟩ ?_
                  refine K u _ hc (Tkn_k (A := 87) (by decide) hfr hTa) gP ?_ (fr_t hfa hfr)
                  rw [show l ++ (acc ++ wO 1 ++ u.1) = l ++ acc ++ wO 1 ++ u.1 by simp only [List.append_assoc]]
                  exact gO
                · exact absurd h85_1 (by decide)
        · have h44 : (4 : Int32) = (5 : Int32) := Classical.not_not.mp h440
          exact absurd h44 (by decide)
      · exact absurd h28 (by decide)
theorem lp_an87 (γ : GE) {b : Bool} {J : AJ} {T : Nat → Int32} {n N i0 r q : Nat} {l : Cd} {X0 : AI} (hC : CnC87 γ b T n N r) (hq : q + r = 8) : ∀ (j i k : Nat) (w : Nat) (acc : Cd) (X : AI), w ≤ 1 → N ≤ i + j → Tkn T n N X → PsO T n N X i → OuO X 87 (l ++ acc) → (l ++ acc).length + w ≤ i → k ≤ i → fr (qX 87) X0 X → (∀ res, (∃ f, AnT T n (Cn T n r) f w i acc res) → An T n (Cn T n r) i0 res) → Rj γ mX5_readAny (4 + 2 * r) 0 0 (fun rt S' I' J' => (SS b false) = S' ∧ J = J' ∧ ∃ res, An T n (Cn T n r) i0 res ∧ RsO T n N 87 X0 l res rt I') (11, [some (.ref 95), some (.int (nI q)), some (.int 1), some (.int (nI w)), some (.int (nI k)), none], [], (SS b false), X, J, 0, 0) := by
  intro j
  induction j with
  | zero =>
    intro i k w acc X hw hj hT hP hO hl hk hf hd
    have e : kK T n i = 17 := by rw [show i = N by have := hP.1; omega]; exact hT.2.1
    rcases (by omega : w = 0 ∨ w = 1) with rfl | rfl
    · exact an_end0_87 γ (by rw [e]; decide) (by rw [e]; decide) hT hP hO hl hk hf hd
    · exact an_end1_87 γ (by rw [e]; decide) (by rw [e]; decide) hT hP hO hl hk hf hd
  | succ j ih =>
    intro i k w acc X hw hj hT hP hO hl hk hf hd
    by_cases h5 : kK T n i = 5
    · rcases (by omega : w = 0 ∨ w = 1) with rfl | rfl
      · refine an_5_0_87 γ hC hq h5 hT hP hO hl hk hf hd (fun u Y hc h1 h2 h3 h4_ => ?_)
        have hq1 := Cn_len hc
        have hq3 := len_flt u.1
        have hw0 : (wO 0).length = 0 := rfl
        refine ih u.2 (k + 1) 0 _ Y (by omega) (by omega) h1 h2 h3 (by simp only [List.length_append, List.length_cons, List.length_nil] at *; omega) (by omega) h4_ (fun res hr => hd res ?_)
        obtain ⟨f, hg⟩ := hr
        exact ⟨f + 1, by unfold AnT; rw [if_pos h5]; exact ⟨_, hc, Or.inr ⟨u, rfl, hg⟩⟩⟩
      · refine an_5_1_87 γ hC hq h5 hT hP hO hl hk hf hd (fun u Y hc h1 h2 h3 h4_ => ?_)
        have hq1 := Cn_len hc
        have hq3 := len_flt u.1
        have hw0 : (wO 1).length = 1 := rfl
        refine ih u.2 (k + 1) 1 _ Y (by omega) (by omega) h1 h2 h3 (by simp only [List.length_append, List.length_cons, List.length_nil] at *; omega) (by omega) h4_ (fun res hr => hd res ?_)
        obtain ⟨f, hg⟩ := hr
        exact ⟨f + 1, by unfold AnT; rw [if_pos h5]; exact ⟨_, hc, Or.inr ⟨u, rfl, hg⟩⟩⟩
    by_cases h4 : kK T n i = 4
    · rcases (by omega : w = 0 ∨ w = 1) with rfl | rfl
      · refine an_4_0_87 γ hC hq h4 hT hP hO hl hk hf hd (fun u Y hc h1 h2 h3 h4_ => ?_)
        have hq1 := Cn_len hc
        have hq3 := len_flt u.1
        have hw0 : (wO 0).length = 0 := rfl
        refine ih u.2 (k + 1) 1 _ Y (by omega) (by omega) h1 h2 h3 (by simp only [List.length_append, List.length_cons, List.length_nil] at *; omega) (by omega) h4_ (fun res hr => hd res ?_)
        obtain ⟨f, hg⟩ := hr
        exact ⟨f + 1, by unfold AnT; rw [if_neg h5, if_pos h4]; exact ⟨_, hc, Or.inr ⟨u, rfl, hg⟩⟩⟩
      · refine an_4_1_87 γ hC hq h4 hT hP hO hl hk hf hd (fun u Y hc h1 h2 h3 h4_ => ?_)
        have hq1 := Cn_len hc
        have hq3 := len_flt u.1
        have hw0 : (wO 1).length = 1 := rfl
        refine ih u.2 (k + 1) 1 _ Y (by omega) (by omega) h1 h2 h3 (by simp only [List.length_append, List.length_cons, List.length_nil] at *; omega) (by omega) h4_ (fun res hr => hd res ?_)
        obtain ⟨f, hg⟩ := hr
        exact ⟨f + 1, by unfold AnT; rw [if_neg h5, if_pos h4]; exact ⟨_, hc, Or.inr ⟨u, rfl, hg⟩⟩⟩
    rcases (by omega : w = 0 ∨ w = 1) with rfl | rfl
    · exact an_end0_87 γ h4 h5 hT hP hO hl hk hf hd
    · exact an_end1_87 γ h4 h5 hT hP hO hl hk hf hd
theorem b_any087 (γ : GE) {b : Bool} {J : AJ} {T : Nat → Int32} {n N i0 r q : Nat} {l : Cd} {X0 : AI} (hC : CnC87 γ b T n N r) (hq : q + r = 8) (hT : Tkn T n N X0) (hP : PsO T n N X0 i0) (hO : OuO X0 87 l) (hl : l.length ≤ i0) : Ct γ mX5_readAny (4 + 2 * r) 0 0 [.ref 95, .int (nI q)] (SS b false) X0 J (fun rt S' I' J' => (SS b false) = S' ∧ J = J' ∧ ∃ res, An T n (Cn T n r) i0 res ∧ RsO T n N 87 X0 l res rt I') := by
  refine ct_of okX5_readAny (L := [some (.ref 95), some (.int (nI q)), none, none, none, none]) (Nat.le_of_ble_eq_true rfl) rfl ?_
  refine r_run okX5_readAny 2 (cs := []) (σ' := (2, [some (.ref 95), some (.int (nI q)), none, none, none, none], [.int (nI q), .ref 95], (SS b false), X0, J, 0, 0)) rfl trivial ?_
  refine r_callV okX5_readAny okX5_readCondition [.int (nI q)] [] 95 rfl rfl rfl kkX5_readCondition rfl rfl (by decide) rfl rfl rfl (by omega) ⟨Nat.le_refl _, Nat.le_refl _⟩ (Nat.le_of_ble_eq_true rfl) (hC X0 J i0 q l hq hT hP hO hl) (fun v1 S1 I1 J1 hp => ?_)
  obtain ⟨rfl, rfl, res, hc, hfr, hr⟩ := hp
  obtain ⟨Xu, eXu⟩ : ∃ z, z = I1 := ⟨_, rfl⟩
  subst eXu
  cases res with
  | inl e =>
    obtain ⟨rfl, gF, gE⟩ := hr
    show Rj _ _ _ _ _ _ (5, [some (.ref 95), some (.int (nI q)), none, none, none, none], [.int 0], (SS b false), Xu, J, 0, 0)
    refine r_run okX5_readAny 7 (cs := []) (σ' := (16, [some (.ref 95), some (.int (nI q)), some (.int 0), some (.int 0), some (.int 0), none], [.int 800, .int 0], (SS b false), Xu, J, 0, 0)) rfl trivial ?_
    refine r_icmp okX5_readAny rfl (fun (h16 : (800 : Int32) ≤ (0 : Int32)) => ?_) (fun (h16 : ¬ (800 : Int32) ≤ (0 : Int32)) => ?_)
    · exact absurd h16 (by decide)
    · refine r_run okX5_readAny 1 (cs := []) (σ' := (20, [some (.ref 95), some (.int (nI q)), some (.int 0), some (.int 0), some (.int 0), none], [.int 0], (SS b false), Xu, J, 0, 0)) rfl trivial ?_
      refine r_ifc okX5_readAny rfl (fun (h20 : (0 : Int32) = (0 : Int32)) => ?_) (fun (h20 : ¬ (0 : Int32) = (0 : Int32)) => ?_)
      · refine r_run okX5_readAny 1 (cs := []) (σ' := (110, [some (.ref 95), some (.int (nI q)), some (.int 0), some (.int 0), some (.int 0), none], [.int 0], (SS b false), Xu, J, 0, 0)) rfl trivial ?_
        refine r_ifc okX5_readAny rfl (fun (h110 : (0 : Int32) = (0 : Int32)) => ?_) (fun (h110 : ¬ (0 : Int32) = (0 : Int32)) => ?_)
        · refine r_run okX5_readAny 1 (cs := []) (σ' := (124, [some (.ref 95), some (.int (nI q)), some (.int 0), some (.int 0), some (.int 0), none], [.int 0], (SS b false), Xu, J, 0, 0)) rfl trivial ?_
          refine r_iret okX5_readAny rfl rfl (by decide +kernel) (Nat.le_refl _) (Nat.le_refl _) ?_
          exact ⟨rfl, rfl, .inl e, ⟨_, hc, Or.inl ⟨e, rfl, rfl⟩⟩, hfr, rfl, gF, gE⟩
        · exact absurd h110 (by decide)
      · exact absurd h20 (by decide)
  | inr u =>
    obtain ⟨rfl, gP, gO⟩ := hr
    have hq1 := Cn_len hc
    have hq3 := len_flt u.1
    show Rj _ _ _ _ _ _ (5, [some (.ref 95), some (.int (nI q)), none, none, none, none], [.int 1], (SS b false), Xu, J, 0, 0)
    refine r_run okX5_readAny 5 (cs := []) (σ' := (11, [some (.ref 95), some (.int (nI q)), some (.int 1), some (.int 0), some (.int 0), none], [], (SS b false), Xu, J, 0, 0)) rfl trivial ?_
    have z := lp_an87 γ (b := b) (J := J) (T := T) (n := n) (N := N) (i0 := i0) (r := r) (q := q) (l := l) (X0 := X0) hC hq N u.2 0 0 u.1 Xu (by omega) (by omega) (Tkn_k (A := 87) (by decide) hfr hT) gP gO (by simp only [List.length_append, List.length_cons, List.length_nil] at *; omega) (by omega) hfr (fun res hr => ⟨_, hc, Or.inr ⟨u, rfl, hr⟩⟩)
    rw [nI_0] at z
    exact z
theorem b_any87 (γ : GE) (b : Bool) (T : Nat → Int32) (n N r : Nat) (hC : CnC87 γ b T n N r) : AnC87 γ b T n N r := fun X J i q l hq hT hP hO hl => b_any087 γ hC hq hT hP hO hl
theorem b_cm87 (γ : GE) {b : Bool} {J : AJ} {T : Nat → Int32} {n N i r q : Nat} {l : Cd} {X : AI} (hT : Tkn T n N X) (hP : PsO T n N X i) (hO : OuO X 87 l) (hl : l.length ≤ i) (k6 : ¬ kK T n i = 6) (k40 : ¬ kK T n i = 40) : Ct γ mX5_readCondition (3 + 2 * r) 0 0 [.ref 95, .int (nI q)] (SS b false) X J (fun rt S' I' J' => (SS b false) = S' ∧ J = J' ∧ ∃ res, Cm T n i res ∧ RsO T n N 87 X l res rt I') := by
  have hN := hT.1
  have hiN := hP.1
  have e7 := hP.2.2.1
  refine ct_of okX5_readCondition (L := [some (.ref 95), some (.int (nI q)), none, none]) (Nat.le_of_ble_eq_true rfl) rfl ?_
  refine r_run okX5_readCondition 3 (cs := []) (σ' := (6, [some (.ref 95), some (.int (nI q)), none, none], [.int 6, .int (X 95 7)], (SS b false), X, J, 0, 0)) rfl trivial ?_
  simp only [e7]
  show Rj _ _ _ _ _ _ (6, [some (.ref 95), some (.int (nI q)), none, none], [.int 6, .int (kK T n i)], (SS b false), X, J, 0, 0)
  refine r_icmp okX5_readCondition rfl (fun (h6 : ¬ (kK T n i) = (6 : Int32)) => ?_) (fun h60 => ?_)
  · refine r_run okX5_readCondition 3 (cs := []) (σ' := (16, [some (.ref 95), some (.int (nI q)), some (.int 0), none], [.int 0], (SS b false), X, J, 0, 0)) rfl trivial ?_
    refine r_ifc okX5_readCondition rfl (fun (h16 : ¬ (0 : Int32) = (0 : Int32)) => ?_) (fun h160 => ?_)
    · exact absurd h16 (by decide)
    · have h16 : (0 : Int32) = (0 : Int32) := Classical.not_not.mp h160
      refine r_run okX5_readCondition 3 (cs := []) (σ' := (25, [some (.ref 95), some (.int (nI q)), some (.int 0), none], [.int 40, .int (X 95 7)], (SS b false), X, J, 0, 0)) rfl trivial ?_
      simp only [e7]
      show Rj _ _ _ _ _ _ (25, [some (.ref 95), some (.int (nI q)), some (.int 0), none], [.int 40, .int (kK T n i)], (SS b false), X, J, 0, 0)
      refine r_icmp okX5_readCondition rfl (fun (h25 : ¬ (kK T n i) = (40 : Int32)) => ?_) (fun h250 => ?_)
      · refine r_run okX5_readCondition 1 (cs := []) (σ' := (105, [some (.ref 95), some (.int (nI q)), some (.int 0), none], [.ref 95], (SS b false), X, J, 0, 0)) rfl trivial ?_
        refine r_callV okX5_readCondition okX5_readSum [] [] 95 rfl rfl rfl kkX5_readSum rfl rfl (by decide) rfl rfl rfl (by omega) ⟨Nat.le_refl _, Nat.le_refl _⟩ (Nat.le_of_ble_eq_true rfl) (b_sum87 γ hT hP hO hl) (fun v1 S1 I1 J1 hp => ?_)
        obtain ⟨rfl, rfl, res, hc, hfr, hr⟩ := hp
        obtain ⟨Xu, eXu⟩ : ∃ z, z = I1 := ⟨_, rfl⟩
        subst eXu
        cases res with
        | inl e =>
          obtain ⟨rfl, gF, gE⟩ := hr
          show Rj _ _ _ _ _ _ (108, [some (.ref 95), some (.int (nI q)), some (.int 0), none], [.int 0], (SS b false), Xu, J, 0, 0)
          refine r_ifc okX5_readCondition rfl (fun (h108 : ¬ (0 : Int32) = (0 : Int32)) => ?_) (fun h1080 => ?_)
          · exact absurd h108 (by decide)
          · have h108 : (0 : Int32) = (0 : Int32) := Classical.not_not.mp h1080
            refine r_run okX5_readCondition 1 (cs := []) (σ' := (112, [some (.ref 95), some (.int (nI q)), some (.int 0), none], [.int 0], (SS b false), Xu, J, 0, 0)) rfl trivial ?_
            refine r_iret okX5_readCondition rfl rfl (by decide +kernel) (Nat.le_refl _) (Nat.le_refl _) ?_
            exact ⟨rfl, rfl, .inl e, ⟨_, hc, Or.inl ⟨e, rfl, rfl⟩⟩, hfr, rfl, gF, gE⟩
        | inr u =>
          obtain ⟨rfl, gP, gO⟩ := hr
          have hu1 := Sm_len hc
          have hu3 := len_flt u.1
          have hu2 := gP.1
          have hTu : Tkn T n N Xu := Tkn_k (A := 87) (by decide) hfr hT
          by_cases hk : kK T n u.2 = 60
          · have e7u : Xu 95 7 = 60 := gP.2.2.1.trans hk
            have hcm : isCm (kK T n u.2) = true := by rw [hk]; rfl
            have hi : u.2 < N := kK_lt hTu hu2 (by rw [hk]; decide)
            show Rj _ _ _ _ _ _ (108, [some (.ref 95), some (.int (nI q)), some (.int 0), none], [.int 1], (SS b false), Xu, J, 0, 0)
            refine r_ifc okX5_readCondition rfl (fun (h108_1 : ¬ (1 : Int32) = (0 : Int32)) => ?_) (fun h108_10 => ?_)
            · refine r_run okX5_readCondition 5 (cs := []) (σ' := (121, [some (.ref 95), some (.int (nI q)), some (.int 0), some (.int (Xu 95 7))], [.int 60, .int (Xu 95 7)], (SS b false), Xu, J, 0, 0)) rfl trivial ?_
              simp only [e7u]
              show Rj _ _ _ _ _ _ (121, [some (.ref 95), some (.int (nI q)), some (.int 0), some (.int 60)], [.int 60, .int 60], (SS b false), Xu, J, 0, 0)
              refine r_icmp okX5_readCondition rfl (fun (h121 : (60 : Int32) = (60 : Int32)) => ?_) (fun (h121 : ¬ (60 : Int32) = (60 : Int32)) => ?_)
              · refine r_run okX5_readCondition 1 (cs := []) (σ' := (143, [some (.ref 95), some (.int (nI q)), some (.int 0), some (.int 60)], [.ref 95], (SS b false), Xu, J, 0, 0)) rfl trivial ?_
                refine r_callV okX5_readCondition okX5_advance [] [] 95 rfl rfl rfl kkX5_advance rfl rfl (by decide) rfl rfl rfl (by omega) ⟨Nat.le_refl _, Nat.le_refl _⟩ (Nat.le_of_ble_eq_true rfl) (b_adv87 γ hTu gP hi) (fun v1 S1 I1 J1 hp => ?_)
                obtain ⟨rfl, rfl, ⟨fXa, pXa⟩, rfl⟩ := hp
                obtain ⟨Xa, eXa⟩ : ∃ z, z = I1 := ⟨_, rfl⟩
                subst eXa
                have hTa : Tkn T n N Xa := Tkn_k (A := 87) (by decide) (f9_X fXa) hTu
                have hOa := OuO_9 (by decide) fXa gO
                have hfa : fr (qX 87) X Xa := fr_t hfr (f9_X fXa)
                show Rj _ _ _ _ _ _ (146, [some (.ref 95), some (.int (nI q)), some (.int 0), some (.int 60)], [], (SS b false), Xa, J, 0, 0)
                refine r_run okX5_readCondition 1 (cs := []) (σ' := (147, [some (.ref 95), some (.int (nI q)), some (.int 0), some (.int 60)], [.ref 95], (SS b false), Xa, J, 0, 0)) rfl trivial ?_
                refine r_callV okX5_readCondition okX5_readSum [] [] 95 rfl rfl rfl kkX5_readSum rfl rfl (by decide) rfl rfl rfl (by omega) ⟨Nat.le_refl _, Nat.le_refl _⟩ (Nat.le_of_ble_eq_true rfl) (b_sum87 γ hTa pXa hOa (by simp only [List.length_append, List.length_cons, List.length_nil] at *; omega)) (fun v1 S1 I1 J1 hp => ?_)
                obtain ⟨rfl, rfl, res2, hc2, hfr2, hr2⟩ := hp
                obtain ⟨Xv, eXv⟩ : ∃ z, z = I1 := ⟨_, rfl⟩
                subst eXv
                cases res2 with
                | inl e =>
                  obtain ⟨rfl, gF, gE⟩ := hr2
                  show Rj _ _ _ _ _ _ (150, [some (.ref 95), some (.int (nI q)), some (.int 0), some (.int 60)], [.int 0], (SS b false), Xv, J, 0, 0)
                  refine r_ifc okX5_readCondition rfl (fun (h150 : (0 : Int32) = (0 : Int32)) => ?_) (fun (h150 : ¬ (0 : Int32) = (0 : Int32)) => ?_)
                  · refine r_run okX5_readCondition 1 (cs := []) (σ' := (170, [some (.ref 95), some (.int (nI q)), some (.int 0), some (.int 60)], [.int 0], (SS b false), Xv, J, 0, 0)) rfl trivial ?_
                    refine r_iret okX5_readCondition rfl rfl (by decide +kernel) (Nat.le_refl _) (Nat.le_refl _) ?_
                    exact ⟨rfl, rfl, .inl e, ⟨_, hc, Or.inr ⟨u, rfl, Or.inr ⟨hcm, _, hc2, Or.inl ⟨e, rfl, rfl⟩⟩⟩⟩, fr_t hfa hfr2, rfl, gF, gE⟩
                  · exact absurd h150 (by decide)
                | inr v =>
                  obtain ⟨rfl, gP2, gO2⟩ := hr2
                  have hv1 := Sm_len hc2
                  have hv3 := len_flt v.1
                  have hv2 := gP2.1
                  show Rj _ _ _ _ _ _ (150, [some (.ref 95), some (.int (nI q)), some (.int 0), some (.int 60)], [.int 1], (SS b false), Xv, J, 0, 0)
                  refine r_ifc okX5_readCondition rfl (fun (h150_1 : (1 : Int32) = (0 : Int32)) => ?_) (fun (h150_1 : ¬ (1 : Int32) = (0 : Int32)) => ?_)
                  · exact absurd h150_1 (by decide)
                  · refine r_run okX5_readCondition 4 (cs := []) (σ' := (159, [some (.ref 95), some (.int (nI q)), some (.int 0), some (.int 60)], [.int 0, .int 60, .ref 87], (SS b false), Xv, J, 0, 0)) rfl trivial ?_
                    refine r_callV okX5_readCondition okX6_add [.int 60, .int 0] [] 87 rfl rfl rfl kkX6_add rfl rfl (by decide) rfl rfl rfl (by omega) ⟨Nat.le_refl _, Nat.le_refl _⟩ (Nat.le_of_ble_eq_true rfl) (a_add87 γ gO2 (by simp only [List.length_append, List.length_cons, List.length_nil] at *; omega) (p := (6, 0)) rfl) (fun v1 S1 I1 J1 hp => ?_)
                    obtain ⟨rfl, rfl, ⟨fXg, oXg⟩, rfl⟩ := hp
                    obtain ⟨Xg, eXg⟩ : ∃ z, z = I1 := ⟨_, rfl⟩
                    subst eXg
                    show Rj _ _ _ _ _ _ (162, [some (.ref 95), some (.int (nI q)), some (.int 0), some (.int 60)], [.int 1], (SS b false), Xg, J, 0, 0)
                    refine r_ifc okX5_readCondition rfl (fun (h162 : (1 : Int32) = (0 : Int32)) => ?_) (fun (h162 : ¬ (1 : Int32) = (0 : Int32)) => ?_)
                    · exact absurd h162 (by decide)
                    · refine r_run okX5_readCondition 2 (cs := []) (σ' := (170, [some (.ref 95), some (.int (nI q)), some (.int 0), some (.int 60)], [.int 1], (SS b false), Xg, J, 0, 0)) rfl trivial ?_
                      refine r_iret okX5_readCondition rfl rfl (by decide +kernel) (Nat.le_refl _) (Nat.le_refl _) ?_
                      refine ⟨rfl, rfl, .inr (u.1 ++ v.1 ++ [(cmO (kK T n u.2), 0)], v.2), ⟨_, hc, Or.inr ⟨u, rfl, Or.inr ⟨hcm, _, hc2, Or.inr ⟨v, rfl, rfl⟩⟩⟩⟩, fr_t (fr_t hfa hfr2) (fA_X fXg), rfl, PsO_k (A := 87) (by decide) fXg gP2, ?_⟩
                      rw [hk, show cmO 60 = 6 from rfl]
                      show OuO Xg 87 (l ++ (u.1 ++ v.1 ++ [(6, 0)]))
                      rw [show l ++ (u.1 ++ v.1 ++ [((6 : Int32), (0 : Int32))]) = l ++ u.1 ++ v.1 ++ [(6, 0)] by simp only [List.append_assoc]]
                      exact oXg
              · exact absurd h121 (by decide)
            · have h108_1 : (1 : Int32) = (0 : Int32) := Classical.not_not.mp h108_10
              exact absurd h108_1 (by decide)
          have m60 := hk
          clear hk
          by_cases hk : kK T n u.2 = 61
          · have e7u : Xu 95 7 = 61 := gP.2.2.1.trans hk
            have hcm : isCm (kK T n u.2) = true := by rw [hk]; rfl
            have hi : u.2 < N := kK_lt hTu hu2 (by rw [hk]; decide)
            show Rj _ _ _ _ _ _ (108, [some (.ref 95), some (.int (nI q)), some (.int 0), none], [.int 1], (SS b false), Xu, J, 0, 0)
            refine r_ifc okX5_readCondition rfl (fun (h108_2 : ¬ (1 : Int32) = (0 : Int32)) => ?_) (fun h108_20 => ?_)
            · refine r_run okX5_readCondition 5 (cs := []) (σ' := (121, [some (.ref 95), some (.int (nI q)), some (.int 0), some (.int (Xu 95 7))], [.int 60, .int (Xu 95 7)], (SS b false), Xu, J, 0, 0)) rfl trivial ?_
              simp only [e7u]
              show Rj _ _ _ _ _ _ (121, [some (.ref 95), some (.int (nI q)), some (.int 0), some (.int 61)], [.int 60, .int 61], (SS b false), Xu, J, 0, 0)
              refine r_icmp okX5_readCondition rfl (fun (h121_1 : (61 : Int32) = (60 : Int32)) => ?_) (fun (h121_1 : ¬ (61 : Int32) = (60 : Int32)) => ?_)
              · exact absurd h121_1 (by decide)
              · refine r_run okX5_readCondition 2 (cs := []) (σ' := (127, [some (.ref 95), some (.int (nI q)), some (.int 0), some (.int 61)], [.int 61, .int 61], (SS b false), Xu, J, 0, 0)) rfl trivial ?_
                refine r_icmp okX5_readCondition rfl (fun (h127 : (61 : Int32) = (61 : Int32)) => ?_) (fun (h127 : ¬ (61 : Int32) = (61 : Int32)) => ?_)
                · refine r_run okX5_readCondition 1 (cs := []) (σ' := (143, [some (.ref 95), some (.int (nI q)), some (.int 0), some (.int 61)], [.ref 95], (SS b false), Xu, J, 0, 0)) rfl trivial ?_
                  refine r_callV okX5_readCondition okX5_advance [] [] 95 rfl rfl rfl kkX5_advance rfl rfl (by decide) rfl rfl rfl (by omega) ⟨Nat.le_refl _, Nat.le_refl _⟩ (Nat.le_of_ble_eq_true rfl) (b_adv87 γ hTu gP hi) (fun v1 S1 I1 J1 hp => ?_)
                  obtain ⟨rfl, rfl, ⟨fXa, pXa⟩, rfl⟩ := hp
                  obtain ⟨Xa, eXa⟩ : ∃ z, z = I1 := ⟨_, rfl⟩
                  subst eXa
                  have hTa : Tkn T n N Xa := Tkn_k (A := 87) (by decide) (f9_X fXa) hTu
                  have hOa := OuO_9 (by decide) fXa gO
                  have hfa : fr (qX 87) X Xa := fr_t hfr (f9_X fXa)
                  show Rj _ _ _ _ _ _ (146, [some (.ref 95), some (.int (nI q)), some (.int 0), some (.int 61)], [], (SS b false), Xa, J, 0, 0)
                  refine r_run okX5_readCondition 1 (cs := []) (σ' := (147, [some (.ref 95), some (.int (nI q)), some (.int 0), some (.int 61)], [.ref 95], (SS b false), Xa, J, 0, 0)) rfl trivial ?_
                  refine r_callV okX5_readCondition okX5_readSum [] [] 95 rfl rfl rfl kkX5_readSum rfl rfl (by decide) rfl rfl rfl (by omega) ⟨Nat.le_refl _, Nat.le_refl _⟩ (Nat.le_of_ble_eq_true rfl) (b_sum87 γ hTa pXa hOa (by simp only [List.length_append, List.length_cons, List.length_nil] at *; omega)) (fun v1 S1 I1 J1 hp => ?_)
                  obtain ⟨rfl, rfl, res2, hc2, hfr2, hr2⟩ := hp
                  obtain ⟨Xv, eXv⟩ : ∃ z, z = I1 := ⟨_, rfl⟩
                  subst eXv
                  cases res2 with
                  | inl e =>
                    obtain ⟨rfl, gF, gE⟩ := hr2
                    show Rj _ _ _ _ _ _ (150, [some (.ref 95), some (.int (nI q)), some (.int 0), some (.int 61)], [.int 0], (SS b false), Xv, J, 0, 0)
                    refine r_ifc okX5_readCondition rfl (fun (h150_2 : (0 : Int32) = (0 : Int32)) => ?_) (fun (h150_2 : ¬ (0 : Int32) = (0 : Int32)) => ?_)
                    · refine r_run okX5_readCondition 1 (cs := []) (σ' := (170, [some (.ref 95), some (.int (nI q)), some (.int 0), some (.int 61)], [.int 0], (SS b false), Xv, J, 0, 0)) rfl trivial ?_
                      refine r_iret okX5_readCondition rfl rfl (by decide +kernel) (Nat.le_refl _) (Nat.le_refl _) ?_
                      exact ⟨rfl, rfl, .inl e, ⟨_, hc, Or.inr ⟨u, rfl, Or.inr ⟨hcm, _, hc2, Or.inl ⟨e, rfl, rfl⟩⟩⟩⟩, fr_t hfa hfr2, rfl, gF, gE⟩
                    · exact absurd h150_2 (by decide)
                  | inr v =>
                    obtain ⟨rfl, gP2, gO2⟩ := hr2
                    have hv1 := Sm_len hc2
                    have hv3 := len_flt v.1
                    have hv2 := gP2.1
                    show Rj _ _ _ _ _ _ (150, [some (.ref 95), some (.int (nI q)), some (.int 0), some (.int 61)], [.int 1], (SS b false), Xv, J, 0, 0)
                    refine r_ifc okX5_readCondition rfl (fun (h150_3 : (1 : Int32) = (0 : Int32)) => ?_) (fun (h150_3 : ¬ (1 : Int32) = (0 : Int32)) => ?_)
                    · exact absurd h150_3 (by decide)
                    · refine r_run okX5_readCondition 4 (cs := []) (σ' := (159, [some (.ref 95), some (.int (nI q)), some (.int 0), some (.int 61)], [.int 0, .int 61, .ref 87], (SS b false), Xv, J, 0, 0)) rfl trivial ?_
                      refine r_callV okX5_readCondition okX6_add [.int 61, .int 0] [] 87 rfl rfl rfl kkX6_add rfl rfl (by decide) rfl rfl rfl (by omega) ⟨Nat.le_refl _, Nat.le_refl _⟩ (Nat.le_of_ble_eq_true rfl) (a_add87 γ gO2 (by simp only [List.length_append, List.length_cons, List.length_nil] at *; omega) (p := (7, 0)) rfl) (fun v1 S1 I1 J1 hp => ?_)
                      obtain ⟨rfl, rfl, ⟨fXg, oXg⟩, rfl⟩ := hp
                      obtain ⟨Xg, eXg⟩ : ∃ z, z = I1 := ⟨_, rfl⟩
                      subst eXg
                      show Rj _ _ _ _ _ _ (162, [some (.ref 95), some (.int (nI q)), some (.int 0), some (.int 61)], [.int 1], (SS b false), Xg, J, 0, 0)
                      refine r_ifc okX5_readCondition rfl (fun (h162_1 : (1 : Int32) = (0 : Int32)) => ?_) (fun (h162_1 : ¬ (1 : Int32) = (0 : Int32)) => ?_)
                      · exact absurd h162_1 (by decide)
                      · refine r_run okX5_readCondition 2 (cs := []) (σ' := (170, [some (.ref 95), some (.int (nI q)), some (.int 0), some (.int 61)], [.int 1], (SS b false), Xg, J, 0, 0)) rfl trivial ?_
                        refine r_iret okX5_readCondition rfl rfl (by decide +kernel) (Nat.le_refl _) (Nat.le_refl _) ?_
                        refine ⟨rfl, rfl, .inr (u.1 ++ v.1 ++ [(cmO (kK T n u.2), 0)], v.2), ⟨_, hc, Or.inr ⟨u, rfl, Or.inr ⟨hcm, _, hc2, Or.inr ⟨v, rfl, rfl⟩⟩⟩⟩, fr_t (fr_t hfa hfr2) (fA_X fXg), rfl, PsO_k (A := 87) (by decide) fXg gP2, ?_⟩
                        rw [hk, show cmO 61 = 7 from rfl]
                        show OuO Xg 87 (l ++ (u.1 ++ v.1 ++ [(7, 0)]))
                        rw [show l ++ (u.1 ++ v.1 ++ [((7 : Int32), (0 : Int32))]) = l ++ u.1 ++ v.1 ++ [(7, 0)] by simp only [List.append_assoc]]
                        exact oXg
                · exact absurd h127 (by decide)
            · have h108_2 : (1 : Int32) = (0 : Int32) := Classical.not_not.mp h108_20
              exact absurd h108_2 (by decide)
          have m61 := hk
          clear hk
          by_cases hk : kK T n u.2 = 62
          · have e7u : Xu 95 7 = 62 := gP.2.2.1.trans hk
            have hcm : isCm (kK T n u.2) = true := by rw [hk]; rfl
            have hi : u.2 < N := kK_lt hTu hu2 (by rw [hk]; decide)
            show Rj _ _ _ _ _ _ (108, [some (.ref 95), some (.int (nI q)), some (.int 0), none], [.int 1], (SS b false), Xu, J, 0, 0)
            refine r_ifc okX5_readCondition rfl (fun (h108_3 : ¬ (1 : Int32) = (0 : Int32)) => ?_) (fun h108_30 => ?_)
            · refine r_run okX5_readCondition 5 (cs := []) (σ' := (121, [some (.ref 95), some (.int (nI q)), some (.int 0), some (.int (Xu 95 7))], [.int 60, .int (Xu 95 7)], (SS b false), Xu, J, 0, 0)) rfl trivial ?_
              simp only [e7u]
              show Rj _ _ _ _ _ _ (121, [some (.ref 95), some (.int (nI q)), some (.int 0), some (.int 62)], [.int 60, .int 62], (SS b false), Xu, J, 0, 0)
              refine r_icmp okX5_readCondition rfl (fun (h121_2 : (62 : Int32) = (60 : Int32)) => ?_) (fun (h121_2 : ¬ (62 : Int32) = (60 : Int32)) => ?_)
              · exact absurd h121_2 (by decide)
              · refine r_run okX5_readCondition 2 (cs := []) (σ' := (127, [some (.ref 95), some (.int (nI q)), some (.int 0), some (.int 62)], [.int 61, .int 62], (SS b false), Xu, J, 0, 0)) rfl trivial ?_
                refine r_icmp okX5_readCondition rfl (fun (h127_1 : (62 : Int32) = (61 : Int32)) => ?_) (fun (h127_1 : ¬ (62 : Int32) = (61 : Int32)) => ?_)
                · exact absurd h127_1 (by decide)
                · refine r_run okX5_readCondition 2 (cs := []) (σ' := (133, [some (.ref 95), some (.int (nI q)), some (.int 0), some (.int 62)], [.int 62, .int 62], (SS b false), Xu, J, 0, 0)) rfl trivial ?_
                  refine r_icmp okX5_readCondition rfl (fun (h133 : (62 : Int32) = (62 : Int32)) => ?_) (fun (h133 : ¬ (62 : Int32) = (62 : Int32)) => ?_)
                  · refine r_run okX5_readCondition 1 (cs := []) (σ' := (143, [some (.ref 95), some (.int (nI q)), some (.int 0), some (.int 62)], [.ref 95], (SS b false), Xu, J, 0, 0)) rfl trivial ?_
                    refine r_callV okX5_readCondition okX5_advance [] [] 95 rfl rfl rfl kkX5_advance rfl rfl (by decide) rfl rfl rfl (by omega) ⟨Nat.le_refl _, Nat.le_refl _⟩ (Nat.le_of_ble_eq_true rfl) (b_adv87 γ hTu gP hi) (fun v1 S1 I1 J1 hp => ?_)
                    obtain ⟨rfl, rfl, ⟨fXa, pXa⟩, rfl⟩ := hp
                    obtain ⟨Xa, eXa⟩ : ∃ z, z = I1 := ⟨_, rfl⟩
                    subst eXa
                    have hTa : Tkn T n N Xa := Tkn_k (A := 87) (by decide) (f9_X fXa) hTu
                    have hOa := OuO_9 (by decide) fXa gO
                    have hfa : fr (qX 87) X Xa := fr_t hfr (f9_X fXa)
                    show Rj _ _ _ _ _ _ (146, [some (.ref 95), some (.int (nI q)), some (.int 0), some (.int 62)], [], (SS b false), Xa, J, 0, 0)
                    refine r_run okX5_readCondition 1 (cs := []) (σ' := (147, [some (.ref 95), some (.int (nI q)), some (.int 0), some (.int 62)], [.ref 95], (SS b false), Xa, J, 0, 0)) rfl trivial ?_
                    refine r_callV okX5_readCondition okX5_readSum [] [] 95 rfl rfl rfl kkX5_readSum rfl rfl (by decide) rfl rfl rfl (by omega) ⟨Nat.le_refl _, Nat.le_refl _⟩ (Nat.le_of_ble_eq_true rfl) (b_sum87 γ hTa pXa hOa (by simp only [List.length_append, List.length_cons, List.length_nil] at *; omega)) (fun v1 S1 I1 J1 hp => ?_)
                    obtain ⟨rfl, rfl, res2, hc2, hfr2, hr2⟩ := hp
                    obtain ⟨Xv, eXv⟩ : ∃ z, z = I1 := ⟨_, rfl⟩
                    subst eXv
                    cases res2 with
                    | inl e =>
                      obtain ⟨rfl, gF, gE⟩ := hr2
                      show Rj _ _ _ _ _ _ (150, [some (.ref 95), some (.int (nI q)), some (.int 0), some (.int 62)], [.int 0], (SS b false), Xv, J, 0, 0)
                      refine r_ifc okX5_readCondition rfl (fun (h150_4 : (0 : Int32) = (0 : Int32)) => ?_) (fun (h150_4 : ¬ (0 : Int32) = (0 : Int32)) => ?_)
                      · refine r_run okX5_readCondition 1 (cs := []) (σ' := (170, [some (.ref 95), some (.int (nI q)), some (.int 0), some (.int 62)], [.int 0], (SS b false), Xv, J, 0, 0)) rfl trivial ?_
                        refine r_iret okX5_readCondition rfl rfl (by decide +kernel) (Nat.le_refl _) (Nat.le_refl _) ?_
                        exact ⟨rfl, rfl, .inl e, ⟨_, hc, Or.inr ⟨u, rfl, Or.inr ⟨hcm, _, hc2, Or.inl ⟨e, rfl, rfl⟩⟩⟩⟩, fr_t hfa hfr2, rfl, gF, gE⟩
                      · exact absurd h150_4 (by decide)
                    | inr v =>
                      obtain ⟨rfl, gP2, gO2⟩ := hr2
                      have hv1 := Sm_len hc2
                      have hv3 := len_flt v.1
                      have hv2 := gP2.1
                      show Rj _ _ _ _ _ _ (150, [some (.ref 95), some (.int (nI q)), some (.int 0), some (.int 62)], [.int 1], (SS b false), Xv, J, 0, 0)
                      refine r_ifc okX5_readCondition rfl (fun (h150_5 : (1 : Int32) = (0 : Int32)) => ?_) (fun (h150_5 : ¬ (1 : Int32) = (0 : Int32)) => ?_)
                      · exact absurd h150_5 (by decide)
                      · refine r_run okX5_readCondition 4 (cs := []) (σ' := (159, [some (.ref 95), some (.int (nI q)), some (.int 0), some (.int 62)], [.int 0, .int 62, .ref 87], (SS b false), Xv, J, 0, 0)) rfl trivial ?_
                        refine r_callV okX5_readCondition okX6_add [.int 62, .int 0] [] 87 rfl rfl rfl kkX6_add rfl rfl (by decide) rfl rfl rfl (by omega) ⟨Nat.le_refl _, Nat.le_refl _⟩ (Nat.le_of_ble_eq_true rfl) (a_add87 γ gO2 (by simp only [List.length_append, List.length_cons, List.length_nil] at *; omega) (p := (8, 0)) rfl) (fun v1 S1 I1 J1 hp => ?_)
                        obtain ⟨rfl, rfl, ⟨fXg, oXg⟩, rfl⟩ := hp
                        obtain ⟨Xg, eXg⟩ : ∃ z, z = I1 := ⟨_, rfl⟩
                        subst eXg
                        show Rj _ _ _ _ _ _ (162, [some (.ref 95), some (.int (nI q)), some (.int 0), some (.int 62)], [.int 1], (SS b false), Xg, J, 0, 0)
                        refine r_ifc okX5_readCondition rfl (fun (h162_2 : (1 : Int32) = (0 : Int32)) => ?_) (fun (h162_2 : ¬ (1 : Int32) = (0 : Int32)) => ?_)
                        · exact absurd h162_2 (by decide)
                        · refine r_run okX5_readCondition 2 (cs := []) (σ' := (170, [some (.ref 95), some (.int (nI q)), some (.int 0), some (.int 62)], [.int 1], (SS b false), Xg, J, 0, 0)) rfl trivial ?_
                          refine r_iret okX5_readCondition rfl rfl (by decide +kernel) (Nat.le_refl _) (Nat.le_refl _) ?_
                          refine ⟨rfl, rfl, .inr (u.1 ++ v.1 ++ [(cmO (kK T n u.2), 0)], v.2), ⟨_, hc, Or.inr ⟨u, rfl, Or.inr ⟨hcm, _, hc2, Or.inr ⟨v, rfl, rfl⟩⟩⟩⟩, fr_t (fr_t hfa hfr2) (fA_X fXg), rfl, PsO_k (A := 87) (by decide) fXg gP2, ?_⟩
                          rw [hk, show cmO 62 = 8 from rfl]
                          show OuO Xg 87 (l ++ (u.1 ++ v.1 ++ [(8, 0)]))
                          rw [show l ++ (u.1 ++ v.1 ++ [((8 : Int32), (0 : Int32))]) = l ++ u.1 ++ v.1 ++ [(8, 0)] by simp only [List.append_assoc]]
                          exact oXg
                  · exact absurd h133 (by decide)
            · have h108_3 : (1 : Int32) = (0 : Int32) := Classical.not_not.mp h108_30
              exact absurd h108_3 (by decide)
          have m62 := hk
          clear hk
          have e7u := gP.2.2.1
          have hcm : isCm (kK T n u.2) = false := by unfold isCm; rw [decide_eq_false m60, decide_eq_false m61, decide_eq_false m62]; rfl
          show Rj _ _ _ _ _ _ (108, [some (.ref 95), some (.int (nI q)), some (.int 0), none], [.int 1], (SS b false), Xu, J, 0, 0)
          refine r_ifc okX5_readCondition rfl (fun (h108_4 : ¬ (1 : Int32) = (0 : Int32)) => ?_) (fun h108_40 => ?_)
          · refine r_run okX5_readCondition 5 (cs := []) (σ' := (121, [some (.ref 95), some (.int (nI q)), some (.int 0), some (.int (Xu 95 7))], [.int 60, .int (Xu 95 7)], (SS b false), Xu, J, 0, 0)) rfl trivial ?_
            simp only [e7u]
            show Rj _ _ _ _ _ _ (121, [some (.ref 95), some (.int (nI q)), some (.int 0), some (.int (kK T n u.2))], [.int 60, .int (kK T n u.2)], (SS b false), Xu, J, 0, 0)
            refine r_icmp okX5_readCondition rfl (fun (h121_3 : (kK T n u.2) = (60 : Int32)) => ?_) (fun (h121_3 : ¬ (kK T n u.2) = (60 : Int32)) => ?_)
            · exact absurd h121_3 m60
            · refine r_run okX5_readCondition 2 (cs := []) (σ' := (127, [some (.ref 95), some (.int (nI q)), some (.int 0), some (.int (kK T n u.2))], [.int 61, .int (kK T n u.2)], (SS b false), Xu, J, 0, 0)) rfl trivial ?_
              refine r_icmp okX5_readCondition rfl (fun (h127_2 : (kK T n u.2) = (61 : Int32)) => ?_) (fun (h127_2 : ¬ (kK T n u.2) = (61 : Int32)) => ?_)
              · exact absurd h127_2 m61
              · refine r_run okX5_readCondition 2 (cs := []) (σ' := (133, [some (.ref 95), some (.int (nI q)), some (.int 0), some (.int (kK T n u.2))], [.int 62, .int (kK T n u.2)], (SS b false), Xu, J, 0, 0)) rfl trivial ?_
                refine r_icmp okX5_readCondition rfl (fun (h133_1 : (kK T n u.2) = (62 : Int32)) => ?_) (fun (h133_1 : ¬ (kK T n u.2) = (62 : Int32)) => ?_)
                · exact absurd h133_1 m62
                · refine r_run okX5_readCondition 2 (cs := []) (σ' := (138, [some (.ref 95), some (.int (nI q)), some (.int 0), some (.int (kK T n u.2))], [.int 1, .ref 95], (SS b false), Xu, J, 0, 0)) rfl trivial ?_
                  refine r_callV okX5_readCondition okX5_refuse [.int 1] [] 95 rfl rfl rfl kkX5_refuse rfl rfl (by decide) rfl rfl rfl (by omega) ⟨Nat.le_refl _, Nat.le_refl _⟩ (Nat.le_of_ble_eq_true rfl) (b_ref87 γ hTu gP 1) (fun v1 S1 I1 J1 hp => ?_)
                  obtain ⟨rfl, rfl, ⟨fr1, fl1⟩, rfl⟩ := hp
                  obtain ⟨Xr, eXr⟩ : ∃ z, z = I1 := ⟨_, rfl⟩
                  subst eXr
                  show Rj _ _ _ _ _ _ (141, [some (.ref 95), some (.int (nI q)), some (.int 0), some (.int (kK T n u.2))], [.int 0], (SS b false), Xr, J, 0, 0)
                  refine r_iret okX5_readCondition rfl rfl (by decide +kernel) (Nat.le_refl _) (Nat.le_refl _) ?_
                  exact ⟨rfl, rfl, .inl (1, u.2), ⟨_, hc, Or.inr ⟨u, rfl, Or.inl ⟨hcm, rfl⟩⟩⟩, fr_t hfr (f9_X fr1), rfl, OuF_9 (by decide) fr1 (OuO_F gO (by simp only [List.length_append, List.length_cons, List.length_nil] at *; omega)), fl1⟩
          · have h108_4 : (1 : Int32) = (0 : Int32) := Classical.not_not.mp h108_40
            exact absurd h108_4 (by decide)
      · have h25 : (kK T n i) = (40 : Int32) := Classical.not_not.mp h250
        exact absurd h25 k40
  · have h6 : (kK T n i) = (6 : Int32) := Classical.not_not.mp h60
    exact absurd h6 k6
theorem b_cz6_87 (γ : GE) {b : Bool} {J : AJ} {T : Nat → Int32} {n N i : Nat} {l : Cd} {X : AI} (hT : Tkn T n N X) (hP : PsO T n N X i) (hO : OuO X 87 l) (hl : l.length ≤ i) (h : kK T n i = 6) : Ct γ mX5_readCondition 3 0 0 [.ref 95, .int 8] (SS b false) X J (fun rt S' I' J' => (SS b false) = S' ∧ J = J' ∧ ∃ res, Cn T n 0 i res ∧ RsO T n N 87 X l res rt I') := by
  have hN := hT.1
  have hiN := hP.1
  have e7 : X 95 7 = 6 := hP.2.2.1.trans h
  refine ct_of okX5_readCondition (L := [some (.ref 95), some (.int 8), none, none]) (Nat.le_of_ble_eq_true rfl) rfl ?_
  refine r_run okX5_readCondition 3 (cs := []) (σ' := (6, [some (.ref 95), some (.int 8), none, none], [.int 6, .int (X 95 7)], (SS b false), X, J, 0, 0)) rfl trivial ?_
  simp only [e7]
  show Rj _ _ _ _ _ _ (6, [some (.ref 95), some (.int 8), none, none], [.int 6, .int 6], (SS b false), X, J, 0, 0)
  refine r_icmp okX5_readCondition rfl (fun (h6 : ¬ (6 : Int32) = (6 : Int32)) => ?_) (fun h60 => ?_)
  · exact absurd h6 (by decide)
  · have h6 : (6 : Int32) = (6 : Int32) := Classical.not_not.mp h60
    refine r_run okX5_readCondition 4 (cs := []) (σ' := (16, [some (.ref 95), some (.int 8), some (.int 1), none], [.int 1], (SS b false), X, J, 0, 0)) rfl trivial ?_
    refine r_ifc okX5_readCondition rfl (fun (h16 : ¬ (1 : Int32) = (0 : Int32)) => ?_) (fun h160 => ?_)
    · refine r_run okX5_readCondition 2 (cs := []) (σ' := (31, [some (.ref 95), some (.int 8), some (.int 1), none], [.int 8, .int 8], (SS b false), X, J, 0, 0)) rfl trivial ?_
      refine r_icmp okX5_readCondition rfl (fun (h31 : (8 : Int32) < (8 : Int32)) => ?_) (fun (h31 : ¬ (8 : Int32) < (8 : Int32)) => ?_)
      · exact absurd h31 (by decide)
      · refine r_run okX5_readCondition 2 (cs := []) (σ' := (36, [some (.ref 95), some (.int 8), some (.int 1), none], [.int 3, .ref 95], (SS b false), X, J, 0, 0)) rfl trivial ?_
        refine r_callV okX5_readCondition okX5_refuse [.int 3] [] 95 rfl rfl rfl kkX5_refuse rfl rfl (by decide) rfl rfl rfl (by decide) ⟨Nat.le_refl _, Nat.le_refl _⟩ (Nat.le_of_ble_eq_true rfl) (b_ref87 γ hT hP 3) (fun v1 S1 I1 J1 hp => ?_)
        obtain ⟨rfl, rfl, ⟨fr1, fl1⟩, rfl⟩ := hp
        obtain ⟨Xr, eXr⟩ : ∃ z, z = I1 := ⟨_, rfl⟩
        subst eXr
        show Rj _ _ _ _ _ _ (39, [some (.ref 95), some (.int 8), some (.int 1), none], [.int 0], (SS b false), Xr, J, 0, 0)
        refine r_iret okX5_readCondition rfl rfl (by decide +kernel) (Nat.le_refl _) (Nat.le_refl _) ?_
        exact ⟨rfl, rfl, .inl (3, i), by unfold Cn; rw [if_pos (Or.inl h)], f9_X fr1, rfl, OuF_9 (by decide) fr1 (OuO_F hO (by omega)), fl1⟩
    · have h16 : (1 : Int32) = (0 : Int32) := Classical.not_not.mp h160
      exact absurd h16 (by decide)
theorem b_cz40_87 (γ : GE) {b : Bool} {J : AJ} {T : Nat → Int32} {n N i : Nat} {l : Cd} {X : AI} (hT : Tkn T n N X) (hP : PsO T n N X i) (hO : OuO X 87 l) (hl : l.length ≤ i) (h : kK T n i = 40) : Ct γ mX5_readCondition 3 0 0 [.ref 95, .int 8] (SS b false) X J (fun rt S' I' J' => (SS b false) = S' ∧ J = J' ∧ ∃ res, Cn T n 0 i res ∧ RsO T n N 87 X l res rt I') := by
  have hN := hT.1
  have hiN := hP.1
  have e7 : X 95 7 = 40 := hP.2.2.1.trans h
  refine ct_of okX5_readCondition (L := [some (.ref 95), some (.int 8), none, none]) (Nat.le_of_ble_eq_true rfl) rfl ?_
  refine r_run okX5_readCondition 3 (cs := []) (σ' := (6, [some (.ref 95), some (.int 8), none, none], [.int 6, .int (X 95 7)], (SS b false), X, J, 0, 0)) rfl trivial ?_
  simp only [e7]
  show Rj _ _ _ _ _ _ (6, [some (.ref 95), some (.int 8), none, none], [.int 6, .int 40], (SS b false), X, J, 0, 0)
  refine r_icmp okX5_readCondition rfl (fun (h6 : ¬ (40 : Int32) = (6 : Int32)) => ?_) (fun h60 => ?_)
  · refine r_run okX5_readCondition 3 (cs := []) (σ' := (16, [some (.ref 95), some (.int 8), some (.int 0), none], [.int 0], (SS b false), X, J, 0, 0)) rfl trivial ?_
    refine r_ifc okX5_readCondition rfl (fun (h16 : ¬ (0 : Int32) = (0 : Int32)) => ?_) (fun h160 => ?_)
    · exact absurd h16 (by decide)
    · have h16 : (0 : Int32) = (0 : Int32) := Classical.not_not.mp h160
      refine r_run okX5_readCondition 3 (cs := []) (σ' := (25, [some (.ref 95), some (.int 8), some (.int 0), none], [.int 40, .int (X 95 7)], (SS b false), X, J, 0, 0)) rfl trivial ?_
      simp only [e7]
      show Rj _ _ _ _ _ _ (25, [some (.ref 95), some (.int 8), some (.int 0), none], [.int 40, .int 40], (SS b false), X, J, 0, 0)
      refine r_icmp okX5_readCondition rfl (fun (h25 : ¬ (40 : Int32) = (40 : Int32)) => ?_) (fun h250 => ?_)
      · exact absurd h25 (by decide)
      · have h25 : (40 : Int32) = (40 : Int32) := Classical.not_not.mp h250
        refine r_run okX5_readCondition 2 (cs := []) (σ' := (31, [some (.ref 95), some (.int 8), some (.int 0), none], [.int 8, .int 8], (SS b false), X, J, 0, 0)) rfl trivial ?_
        refine r_icmp okX5_readCondition rfl (fun (h31 : (8 : Int32) < (8 : Int32)) => ?_) (fun (h31 : ¬ (8 : Int32) < (8 : Int32)) => ?_)
        · exact absurd h31 (by decide)
        · refine r_run okX5_readCondition 2 (cs := []) (σ' := (36, [some (.ref 95), some (.int 8), some (.int 0), none], [.int 3, .ref 95], (SS b false), X, J, 0, 0)) rfl trivial ?_
          refine r_callV okX5_readCondition okX5_refuse [.int 3] [] 95 rfl rfl rfl kkX5_refuse rfl rfl (by decide) rfl rfl rfl (by decide) ⟨Nat.le_refl _, Nat.le_refl _⟩ (Nat.le_of_ble_eq_true rfl) (b_ref87 γ hT hP 3) (fun v1 S1 I1 J1 hp => ?_)
          obtain ⟨rfl, rfl, ⟨fr1, fl1⟩, rfl⟩ := hp
          obtain ⟨Xr, eXr⟩ : ∃ z, z = I1 := ⟨_, rfl⟩
          subst eXr
          show Rj _ _ _ _ _ _ (39, [some (.ref 95), some (.int 8), some (.int 0), none], [.int 0], (SS b false), Xr, J, 0, 0)
          refine r_iret okX5_readCondition rfl rfl (by decide +kernel) (Nat.le_refl _) (Nat.le_refl _) ?_
          exact ⟨rfl, rfl, .inl (3, i), by unfold Cn; rw [if_pos (Or.inr h)], f9_X fr1, rfl, OuF_9 (by decide) fr1 (OuO_F hO (by omega)), fl1⟩
  · have h6 : (40 : Int32) = (6 : Int32) := Classical.not_not.mp h60
    exact absurd h6 (by decide)
theorem b_cnot87 (γ : GE) {b : Bool} {J : AJ} {T : Nat → Int32} {n N i r q : Nat} {l : Cd} {X : AI} (hT : Tkn T n N X) (hP : PsO T n N X i) (hO : OuO X 87 l) (hl : l.length ≤ i) (hC : CnC87 γ b T n N r) (hq : q + (r + 1) = 8) (h : kK T n i = 6) : Ct γ mX5_readCondition (5 + 2 * r) 0 0 [.ref 95, .int (nI q)] (SS b false) X J (fun rt S' I' J' => (SS b false) = S' ∧ J = J' ∧ ∃ res, Cn T n (r + 1) i res ∧ RsO T n N 87 X l res rt I') := by
  have hN := hT.1
  have hiN := hP.1
  have e7 : X 95 7 = 6 := hP.2.2.1.trans h
  have hi : i < N := kK_lt hT hiN (by rw [h]; decide)
  refine ct_of okX5_readCondition (L := [some (.ref 95), some (.int (nI q)), none, none]) (Nat.le_of_ble_eq_true rfl) rfl ?_
  refine r_run okX5_readCondition 3 (cs := []) (σ' := (6, [some (.ref 95), some (.int (nI q)), none, none], [.int 6, .int (X 95 7)], (SS b false), X, J, 0, 0)) rfl trivial ?_
  simp only [e7]
  show Rj _ _ _ _ _ _ (6, [some (.ref 95), some (.int (nI q)), none, none], [.int 6, .int 6], (SS b false), X, J, 0, 0)
  refine r_icmp okX5_readCondition rfl (fun (h6 : ¬ (6 : Int32) = (6 : Int32)) => ?_) (fun h60 => ?_)
  · exact absurd h6 (by decide)
  · have h6 : (6 : Int32) = (6 : Int32) := Classical.not_not.mp h60
    refine r_run okX5_readCondition 4 (cs := []) (σ' := (16, [some (.ref 95), some (.int (nI q)), some (.int 1), none], [.int 1], (SS b false), X, J, 0, 0)) rfl trivial ?_
    refine r_ifc okX5_readCondition rfl (fun (h16 : ¬ (1 : Int32) = (0 : Int32)) => ?_) (fun h160 => ?_)
    · refine r_run okX5_readCondition 2 (cs := []) (σ' := (31, [some (.ref 95), some (.int (nI q)), some (.int 1), none], [.int 8, .int (nI q)], (SS b false), X, J, 0, 0)) rfl trivial ?_
      refine r_icmp okX5_readCondition rfl (fun (h31 : (nI q) < (8 : Int32)) => ?_) (fun (h31 : ¬ (nI q) < (8 : Int32)) => ?_)
      · refine r_run okX5_readCondition 1 (cs := []) (σ' := (41, [some (.ref 95), some (.int (nI q)), some (.int 1), none], [.ref 95], (SS b false), X, J, 0, 0)) rfl trivial ?_
        refine r_callV okX5_readCondition okX5_advance [] [] 95 rfl rfl rfl kkX5_advance rfl rfl (by decide) rfl rfl rfl (by omega) ⟨Nat.le_refl _, Nat.le_refl _⟩ (Nat.le_of_ble_eq_true rfl) (b_adv87 γ hT hP hi) (fun v1 S1 I1 J1 hp => ?_)
        obtain ⟨rfl, rfl, ⟨fXa, pXa⟩, rfl⟩ := hp
        obtain ⟨Xa, eXa⟩ : ∃ z, z = I1 := ⟨_, rfl⟩
        subst eXa
        have hTa : Tkn T n N Xa := Tkn_k (A := 87) (by decide) (f9_X fXa) hT
        have hOa := OuO_9 (by decide) fXa hO
        show Rj _ _ _ _ _ _ (44, [some (.ref 95), some (.int (nI q)), some (.int 1), none], [], (SS b false), Xa, J, 0, 0)
        refine r_run okX5_readCondition 1 (cs := []) (σ' := (45, [some (.ref 95), some (.int (nI q)), some (.int 1), none], [.int 1], (SS b false), Xa, J, 0, 0)) rfl trivial ?_
        refine r_ifc okX5_readCondition rfl (fun (h45 : (1 : Int32) = (0 : Int32)) => ?_) (fun (h45 : ¬ (1 : Int32) = (0 : Int32)) => ?_)
        · exact absurd h45 (by decide)
        · refine r_run okX5_readCondition 4 (cs := []) (σ' := (52, [some (.ref 95), some (.int (nI q)), some (.int 1), none], [.int ((nI q) + 1), .ref 95], (SS b false), Xa, J, 0, 0)) rfl trivial ?_
          simp only [← nI_succ]
          show Rj _ _ _ _ _ _ (52, [some (.ref 95), some (.int (nI q)), some (.int 1), none], [.int (nI (q + 1)), .ref 95], (SS b false), Xa, J, 0, 0)
          refine r_callV okX5_readCondition okX5_readCondition [.int (nI (q + 1))] [] 95 rfl rfl rfl kkX5_readCondition rfl rfl (by decide) rfl rfl rfl (by omega) ⟨Nat.le_refl _, Nat.le_refl _⟩ (Nat.le_of_ble_eq_true rfl) (hC Xa J (i + 1) (q + 1) l (by omega) hTa pXa hOa (by omega)) (fun v1 S1 I1 J1 hp => ?_)
          obtain ⟨rfl, rfl, res, hc, hfr, hr⟩ := hp
          obtain ⟨Xu, eXu⟩ : ∃ z, z = I1 := ⟨_, rfl⟩
          subst eXu
          cases res with
          | inl e =>
            obtain ⟨rfl, gF, gE⟩ := hr
            show Rj _ _ _ _ _ _ (55, [some (.ref 95), some (.int (nI q)), some (.int 1), none], [.int 0], (SS b false), Xu, J, 0, 0)
            refine r_ifc okX5_readCondition rfl (fun (h55 : (0 : Int32) = (0 : Int32)) => ?_) (fun (h55 : ¬ (0 : Int32) = (0 : Int32)) => ?_)
            · refine r_run okX5_readCondition 2 (cs := []) (σ' := (103, [some (.ref 95), some (.int (nI q)), some (.int 1), none], [.int 0], (SS b false), Xu, J, 0, 0)) rfl trivial ?_
              refine r_iret okX5_readCondition rfl rfl (by decide +kernel) (Nat.le_refl _) (Nat.le_refl _) ?_
              exact ⟨rfl, rfl, .inl e, by unfold Cn; rw [if_pos h]; exact ⟨_, hc, Or.inl ⟨e, rfl, rfl⟩⟩, fr_t (f9_X fXa) hfr, rfl, gF, gE⟩
            · exact absurd h55 (by decide)
          | inr u =>
            obtain ⟨rfl, gP, gO⟩ := hr
            have hq1 := Cn_len hc
            have hq3 := len_flt u.1
            have hq2 := gP.1
            show Rj _ _ _ _ _ _ (55, [some (.ref 95), some (.int (nI q)), some (.int 1), none], [.int 1], (SS b false), Xu, J, 0, 0)
            refine r_ifc okX5_readCondition rfl (fun (h55_1 : (1 : Int32) = (0 : Int32)) => ?_) (fun (h55_1 : ¬ (1 : Int32) = (0 : Int32)) => ?_)
            · exact absurd h55_1 (by decide)
            · refine r_run okX5_readCondition 4 (cs := []) (σ' := (65, [some (.ref 95), some (.int (nI q)), some (.int 1), none], [.int 0, .int 6, .ref 87], (SS b false), Xu, J, 0, 0)) rfl trivial ?_
              refine r_callV okX5_readCondition okX6_add [.int 6, .int 0] [] 87 rfl rfl rfl kkX6_add rfl rfl (by decide) rfl rfl rfl (by omega) ⟨Nat.le_refl _, Nat.le_refl _⟩ (Nat.le_of_ble_eq_true rfl) (a_add87 γ gO (by simp only [List.length_append, List.length_cons, List.length_nil] at *; omega) (p := (9, 0)) rfl) (fun v1 S1 I1 J1 hp => ?_)
              obtain ⟨rfl, rfl, ⟨fXg, oXg⟩, rfl⟩ := hp
              obtain ⟨Xg, eXg⟩ : ∃ z, z = I1 := ⟨_, rfl⟩
              subst eXg
              show Rj _ _ _ _ _ _ (68, [some (.ref 95), some (.int (nI q)), some (.int 1), none], [.int 1], (SS b false), Xg, J, 0, 0)
              refine r_ifc okX5_readCondition rfl (fun (h68 : (1 : Int32) = (0 : Int32)) => ?_) (fun (h68 : ¬ (1 : Int32) = (0 : Int32)) => ?_)
              · exact absurd h68 (by decide)
              · refine r_run okX5_readCondition 2 (cs := []) (σ' := (103, [some (.ref 95), some (.int (nI q)), some (.int 1), none], [.int 1], (SS b false), Xg, J, 0, 0)) rfl trivial ?_
                refine r_iret okX5_readCondition rfl rfl (by decide +kernel) (Nat.le_refl _) (Nat.le_refl _) ?_
                exact ⟨rfl, rfl, .inr (u.1 ++ [(9, 0)], u.2), by unfold Cn; rw [if_pos h]; exact ⟨_, hc, Or.inr ⟨u, rfl, rfl⟩⟩, fr_t (fr_t (f9_X fXa) hfr) (fA_X fXg), rfl, PsO_k (A := 87) (by decide) fXg gP, by show OuO Xg 87 (l ++ (u.1 ++ [(9, 0)])); rw [← List.append_assoc]; exact oXg⟩
      · exact absurd (nI_lt (a := q) (b := 8) (by omega) (by decide)) h31
    · have h16 : (1 : Int32) = (0 : Int32) := Classical.not_not.mp h160
      exact absurd h16 (by decide)
theorem b_cbr87 (γ : GE) {b : Bool} {J : AJ} {T : Nat → Int32} {n N i r q : Nat} {l : Cd} {X : AI} (hT : Tkn T n N X) (hP : PsO T n N X i) (hO : OuO X 87 l) (hl : l.length ≤ i) (hC : CnC87 γ b T n N r) (hq : q + (r + 1) = 8) (h : kK T n i = 40) : Ct γ mX5_readCondition (5 + 2 * r) 0 0 [.ref 95, .int (nI q)] (SS b false) X J (fun rt S' I' J' => (SS b false) = S' ∧ J = J' ∧ ∃ res, Cn T n (r + 1) i res ∧ RsO T n N 87 X l res rt I') := by
  have hN := hT.1
  have hiN := hP.1
  have e7 : X 95 7 = 40 := hP.2.2.1.trans h
  have hi : i < N := kK_lt hT hiN (by rw [h]; decide)
  refine ct_of okX5_readCondition (L := [some (.ref 95), some (.int (nI q)), none, none]) (Nat.le_of_ble_eq_true rfl) rfl ?_
  refine r_run okX5_readCondition 3 (cs := []) (σ' := (6, [some (.ref 95), some (.int (nI q)), none, none], [.int 6, .int (X 95 7)], (SS b false), X, J, 0, 0)) rfl trivial ?_
  simp only [e7]
  show Rj _ _ _ _ _ _ (6, [some (.ref 95), some (.int (nI q)), none, none], [.int 6, .int 40], (SS b false), X, J, 0, 0)
  refine r_icmp okX5_readCondition rfl (fun (h6 : ¬ (40 : Int32) = (6 : Int32)) => ?_) (fun h60 => ?_)
  · refine r_run okX5_readCondition 3 (cs := []) (σ' := (16, [some (.ref 95), some (.int (nI q)), some (.int 0), none], [.int 0], (SS b false), X, J, 0, 0)) rfl trivial ?_
    refine r_ifc okX5_readCondition rfl (fun (h16 : ¬ (0 : Int32) = (0 : Int32)) => ?_) (fun h160 => ?_)
    · exact absurd h16 (by decide)
    · have h16 : (0 : Int32) = (0 : Int32) := Classical.not_not.mp h160
      refine r_run okX5_readCondition 3 (cs := []) (σ' := (25, [some (.ref 95), some (.int (nI q)), some (.int 0), none], [.int 40, .int (X 95 7)], (SS b false), X, J, 0, 0)) rfl trivial ?_
      simp only [e7]
      show Rj _ _ _ _ _ _ (25, [some (.ref 95), some (.int (nI q)), some (.int 0), none], [.int 40, .int 40], (SS b false), X, J, 0, 0)
      refine r_icmp okX5_readCondition rfl (fun (h25 : ¬ (40 : Int32) = (40 : Int32)) => ?_) (fun h250 => ?_)
      · exact absurd h25 (by decide)
      · have h25 : (40 : Int32) = (40 : Int32) := Classical.not_not.mp h250
        refine r_run okX5_readCondition 2 (cs := []) (σ' := (31, [some (.ref 95), some (.int (nI q)), some (.int 0), none], [.int 8, .int (nI q)], (SS b false), X, J, 0, 0)) rfl trivial ?_
        refine r_icmp okX5_readCondition rfl (fun (h31 : (nI q) < (8 : Int32)) => ?_) (fun (h31 : ¬ (nI q) < (8 : Int32)) => ?_)
        · refine r_run okX5_readCondition 1 (cs := []) (σ' := (41, [some (.ref 95), some (.int (nI q)), some (.int 0), none], [.ref 95], (SS b false), X, J, 0, 0)) rfl trivial ?_
          refine r_callV okX5_readCondition okX5_advance [] [] 95 rfl rfl rfl kkX5_advance rfl rfl (by decide) rfl rfl rfl (by omega) ⟨Nat.le_refl _, Nat.le_refl _⟩ (Nat.le_of_ble_eq_true rfl) (b_adv87 γ hT hP hi) (fun v1 S1 I1 J1 hp => ?_)
          obtain ⟨rfl, rfl, ⟨fXa, pXa⟩, rfl⟩ := hp
          obtain ⟨Xa, eXa⟩ : ∃ z, z = I1 := ⟨_, rfl⟩
          subst eXa
          have hTa : Tkn T n N Xa := Tkn_k (A := 87) (by decide) (f9_X fXa) hT
          have hOa := OuO_9 (by decide) fXa hO
          show Rj _ _ _ _ _ _ (44, [some (.ref 95), some (.int (nI q)), some (.int 0), none], [], (SS b false), Xa, J, 0, 0)
          refine r_run okX5_readCondition 1 (cs := []) (σ' := (45, [some (.ref 95), some (.int (nI q)), some (.int 0), none], [.int 0], (SS b false), Xa, J, 0, 0)) rfl trivial ?_
          refine r_ifc okX5_readCondition rfl (fun (h45 : (0 : Int32) = (0 : Int32)) => ?_) (fun (h45 : ¬ (0 : Int32) = (0 : Int32)) => ?_)
          · refine r_run okX5_readCondition 4 (cs := []) (σ' := (83, [some (.ref 95), some (.int (nI q)), some (.int 0), none], [.int ((nI q) + 1), .ref 95], (SS b false), Xa, J, 0, 0)) rfl trivial ?_
            simp only [← nI_succ]
            show Rj _ _ _ _ _ _ (83, [some (.ref 95), some (.int (nI q)), some (.int 0), none], [.int (nI (q + 1)), .ref 95], (SS b false), Xa, J, 0, 0)
            refine r_callV okX5_readCondition okX5_readAny [.int (nI (q + 1))] [] 95 rfl rfl rfl kkX5_readAny rfl rfl (by decide) rfl rfl rfl (by omega) ⟨Nat.le_refl _, Nat.le_refl _⟩ (Nat.le_of_ble_eq_true rfl) (b_any87 γ b T n N r hC Xa J (i + 1) (q + 1) l (by omega) hTa pXa hOa (by omega)) (fun v1 S1 I1 J1 hp => ?_)
            obtain ⟨rfl, rfl, res, hc, hfr, hr⟩ := hp
            obtain ⟨Xu, eXu⟩ : ∃ z, z = I1 := ⟨_, rfl⟩
            subst eXu
            cases res with
            | inl e =>
              obtain ⟨rfl, gF, gE⟩ := hr
              show Rj _ _ _ _ _ _ (86, [some (.ref 95), some (.int (nI q)), some (.int 0), none], [.int 0], (SS b false), Xu, J, 0, 0)
              refine r_ifc okX5_readCondition rfl (fun (h86 : (0 : Int32) = (0 : Int32)) => ?_) (fun (h86 : ¬ (0 : Int32) = (0 : Int32)) => ?_)
              · refine r_run okX5_readCondition 1 (cs := []) (σ' := (103, [some (.ref 95), some (.int (nI q)), some (.int 0), none], [.int 0], (SS b false), Xu, J, 0, 0)) rfl trivial ?_
                refine r_iret okX5_readCondition rfl rfl (by decide +kernel) (Nat.le_refl _) (Nat.le_refl _) ?_
                exact ⟨rfl, rfl, .inl e, by unfold Cn; rw [if_neg (by rw [h]; decide), if_pos h]; exact ⟨_, hc, Or.inl ⟨e, rfl, rfl⟩⟩, fr_t (f9_X fXa) hfr, rfl, gF, gE⟩
              · exact absurd h86 (by decide)
            | inr u =>
              obtain ⟨rfl, gP, gO⟩ := hr
              have hq1 := An_len (fun _ _ z => Cn_len z) hc
              have hq3 := len_flt u.1
              have hq2 := gP.1
              have hTu : Tkn T n N Xu := Tkn_k (A := 87) (by decide) hfr hTa
              by_cases hk : kK T n u.2 = 41
              · show Rj _ _ _ _ _ _ (86, [some (.ref 95), some (.int (nI q)), some (.int 0), none], [.int 1], (SS b false), Xu, J, 0, 0)
                refine r_ifc okX5_readCondition rfl (fun (h86_1 : (1 : Int32) = (0 : Int32)) => ?_) (fun (h86_1 : ¬ (1 : Int32) = (0 : Int32)) => ?_)
                · exact absurd h86_1 (by decide)
                · refine r_run okX5_readCondition 2 (cs := []) (σ' := (92, [some (.ref 95), some (.int (nI q)), some (.int 0), none], [.int 41, .ref 95], (SS b false), Xu, J, 0, 0)) rfl trivial ?_
                  refine r_callV okX5_readCondition okX5_take [.int 41] [] 95 rfl rfl rfl kkX5_take rfl rfl (by decide) rfl rfl rfl (by omega) ⟨Nat.le_refl _, Nat.le_refl _⟩ (Nat.le_of_ble_eq_true rfl) (b_take187 γ hTu gP (kK_lt hTu hq2 (by rw [hk]; decide)) hk) (fun v1 S1 I1 J1 hp => ?_)
                  obtain ⟨rfl, rfl, ⟨fXt, pXt⟩, rfl⟩ := hp
                  obtain ⟨Xt, eXt⟩ : ∃ z, z = I1 := ⟨_, rfl⟩
                  subst eXt
                  show Rj _ _ _ _ _ _ (95, [some (.ref 95), some (.int (nI q)), some (.int 0), none], [.int 1], (SS b false), Xt, J, 0, 0)
                  refine r_ifc okX5_readCondition rfl (fun (h95 : (1 : Int32) = (0 : Int32)) => ?_) (fun (h95 : ¬ (1 : Int32) = (0 : Int32)) => ?_)
                  · exact absurd h95 (by decide)
                  · refine r_run okX5_readCondition 2 (cs := []) (σ' := (103, [some (.ref 95), some (.int (nI q)), some (.int 0), none], [.int 1], (SS b false), Xt, J, 0, 0)) rfl trivial ?_
                    refine r_iret okX5_readCondition rfl rfl (by decide +kernel) (Nat.le_refl _) (Nat.le_refl _) ?_
                    exact ⟨rfl, rfl, .inr (u.1, u.2 + 1), by unfold Cn; rw [if_neg (by rw [h]; decide), if_pos h]; exact ⟨_, hc, Or.inr ⟨u, rfl, Or.inl ⟨hk, rfl⟩⟩⟩, fr_t (fr_t (f9_X fXa) hfr) (f9_X fXt), rfl, pXt, OuO_9 (by decide) fXt gO⟩
              · show Rj _ _ _ _ _ _ (86, [some (.ref 95), some (.int (nI q)), some (.int 0), none], [.int 1], (SS b false), Xu, J, 0, 0)
                refine r_ifc okX5_readCondition rfl (fun (h86_2 : (1 : Int32) = (0 : Int32)) => ?_) (fun (h86_2 : ¬ (1 : Int32) = (0 : Int32)) => ?_)
                · exact absurd h86_2 (by decide)
                · refine r_run okX5_readCondition 2 (cs := []) (σ' := (92, [some (.ref 95), some (.int (nI q)), some (.int 0), none], [.int 41, .ref 95], (SS b false), Xu, J, 0, 0)) rfl trivial ?_
                  refine r_callV okX5_readCondition okX5_take [.int 41] [] 95 rfl rfl rfl kkX5_take rfl rfl (by decide) rfl rfl rfl (by omega) ⟨Nat.le_refl _, Nat.le_refl _⟩ (Nat.le_of_ble_eq_true rfl) (b_take087 γ hTu gP hk) (fun v1 S1 I1 J1 hp => ?_)
                  obtain ⟨rfl, rfl, ⟨fXt, pXt⟩, rfl⟩ := hp
                  obtain ⟨Xt, eXt⟩ : ∃ z, z = I1 := ⟨_, rfl⟩
                  subst eXt
                  show Rj _ _ _ _ _ _ (95, [some (.ref 95), some (.int (nI q)), some (.int 0), none], [.int 0], (SS b false), Xt, J, 0, 0)
                  refine r_ifc okX5_readCondition rfl (fun (h95_1 : (0 : Int32) = (0 : Int32)) => ?_) (fun (h95_1 : ¬ (0 : Int32) = (0 : Int32)) => ?_)
                  · refine r_run okX5_readCondition 1 (cs := []) (σ' := (103, [some (.ref 95), some (.int (nI q)), some (.int 0), none], [.int 0], (SS b false), Xt, J, 0, 0)) rfl trivial ?_
                    refine r_iret okX5_readCondition rfl rfl (by decide +kernel) (Nat.le_refl _) (Nat.le_refl _) ?_
                    exact ⟨rfl, rfl, .inl (1, u.2), by unfold Cn; rw [if_neg (by rw [h]; decide), if_pos h]; exact ⟨_, hc, Or.inr ⟨u, rfl, Or.inr ⟨hk, rfl⟩⟩⟩, fr_t (fr_t (f9_X fXa) hfr) (f9_X fXt), rfl, OuF_9 (by decide) fXt (OuO_F gO (by simp only [List.length_append, List.length_cons, List.length_nil] at *; omega)), pXt⟩
                  · exact absurd h95_1 (by decide)
          · exact absurd h45 (by decide)
        · exact absurd (nI_lt (a := q) (b := 8) (by omega) (by decide)) h31
  · have h6 : (40 : Int32) = (6 : Int32) := Classical.not_not.mp h60
    exact absurd h6 (by decide)
theorem b_cn87 (γ : GE) (b : Bool) (T : Nat → Int32) (n N : Nat) : ∀ r, CnC87 γ b T n N r
  | 0 => fun X J i q l hq hT hP hO hl => by
    have e : q = 8 := by omega
    subst e
    by_cases h6 : kK T n i = 6
    · exact b_cz6_87 γ hT hP hO hl h6
    by_cases h40 : kK T n i = 40
    · exact b_cz40_87 γ hT hP hO hl h40
    refine ct_post (fun v S I J z => ?_) (b_cm87 γ (r := 0) (q := 8) hT hP hO hl h6 h40)
    obtain ⟨z1, z2, res, z3, z4⟩ := z
    exact ⟨z1, z2, res, by unfold Cn; rw [if_neg (fun y => y.elim h6 h40)]; exact z3, z4⟩
  | r + 1 => fun X J i q l hq hT hP hO hl => by
    have hC := b_cn87 γ b T n N r
    show Ct γ mX5_readCondition (3 + 2 * (r + 1)) _ _ _ _ _ _ _
    by_cases h6 : kK T n i = 6
    · rw [show 3 + 2 * (r + 1) = 5 + 2 * r by omega]; exact b_cnot87 γ hT hP hO hl hC hq h6
    by_cases h40 : kK T n i = 40
    · rw [show 3 + 2 * (r + 1) = 5 + 2 * r by omega]; exact b_cbr87 γ hT hP hO hl hC hq h40
    refine ct_post (fun v S I J z => ?_) (b_cm87 γ (r := r + 1) (q := q) hT hP hO hl h6 h40)
    obtain ⟨z1, z2, res, z3, z4⟩ := z
    exact ⟨z1, z2, res, by unfold Cn; rw [if_neg h6, if_neg h40]; exact z3, z4⟩
