/-! ===== the office reads: read, rules ===== -/
/-- what rules() does -/
def RuP (b : Bool) (A : Nat) (T : Nat → Int32) (n : Nat) (X : AI) (res : RR) (r : Option Value) (S' : List Sh) (X' : AI) : Prop := X' 95 4 = 0 ∧ match res with
  | .inl e => some (Value.int (-1)) = r ∧ SS b b = S' ∧ FlO T n X' e
  | .inr ls => some (Value.int (nI ls.length)) = r ∧ SS (!b) b = S' ∧ X' 95 8 = 0 ∧ X' 95 9 = -1 ∧ ls.length ≤ 16 ∧ X' A 8 = nI ls.length ∧ ∀ k q, ls[k]? = some q → OLn X' A k q
theorem b_read79 (γ : GE) {b c : Bool} {X : AI} {J : AJ} {T : Nat → Int32} {n : Nat} (hX : Tap T n X) : Ct γ mX5_read 22 0 0 [.ref 95, .ref 79] (SS b c) X J (fun r S' I' J' => (SS b true) = S' ∧ J = J' ∧ ∃ res, (∃ f, RdT T n f 0 [] res) ∧ RsR79 T n X res r I') := by
  have hX1 : Tap T n (upI (upI (upI (upI X 79 7 0) 79 8 0) 95 8 0) 95 9 (-1)) := ⟨hX.1, by rw [upI_n (by decide), upI_n (by decide), upI_ne (by decide), upI_ne (by decide)]; exact hX.2.1, fun i hi => by rw [upI_ne (by decide), upI_ne (by decide), upI_ne (by decide), upI_ne (by decide)]; exact hX.2.2 i hi⟩
  refine ct_of okX5_read (L := [some (.ref 95), some (.ref 79), none, none]) (Nat.le_of_ble_eq_true rfl) rfl ?_
  refine r_run okX5_read 3 (cs := []) (σ' := (5, [some (.ref 95), some (.ref 79), none, none], [], (SS b true), X, J, 0, 0)) rfl trivial ?_
  refine r_run okX5_read 2 (cs := []) (σ' := (9, [some (.ref 95), some (.ref 79), none, none], [.ref 79], (SS b true), X, J, 0, 0)) rfl trivial ?_
  refine r_callV okX5_read okX6_clear [] [] 79 rfl rfl rfl kkX6_clear rfl rfl (by decide) rfl rfl rfl (by decide) ⟨Nat.le_refl _, Nat.le_refl _⟩ (Nat.le_of_ble_eq_true rfl) (o_rclear79 γ) (fun v1 S1 I1 J1 hp => ?_)
  obtain ⟨rfl, rfl, rfl, rfl⟩ := hp
  show Rj _ _ _ _ _ _ (12, [some (.ref 95), some (.ref 79), none, none], [], (SS b true), (upI (upI X 79 7 0) 79 8 0), J, 0, 0)
  refine r_run okX5_read 7 (cs := []) (σ' := (23, [some (.ref 95), some (.ref 79), none, none], [.ref 95], (SS b true), (upI (upI (upI (upI X 79 7 0) 79 8 0) 95 8 0) 95 9 (-1)), J, 0, 0)) rfl trivial ?_
  refine r_callV okX5_read okX5_scan [] [] 95 rfl rfl rfl kkX5_scan rfl rfl (by decide) rfl rfl rfl (by decide) ⟨Nat.le_refl _, Nat.le_refl _⟩ (Nat.le_of_ble_eq_true rfl) (t_scan γ (T := T) (n := n) hX1) (fun v1 S1 I1 J1 hp => ?_)
  obtain ⟨rfl, rfl, ⟨fs, N, hN⟩, rfl⟩ := hp
  obtain ⟨Xs, eXs⟩ : ∃ z, z = I1 := ⟨_, rfl⟩
  subst eXs
  show Rj _ _ _ _ _ _ (26, [some (.ref 95), some (.ref 79), none, none], [], (SS b true), Xs, J, 0, 0)
  refine r_run okX5_read 13 (cs := [vp_in 0 801]) (σ' := (45, [some (.ref 95), some (.ref 79), some (.int 1), some (.int 0)], [], (SS b true), (upI (upI Xs 95 6 0) 95 7 (Xs 97 ((0 : Int32).toNatClampNeg))), J, 0, 0)) rfl ⟨(show vp_in (nI 0) 801 from vin (by decide) (by decide)), trivial⟩ ?_
  have fx : fr qR79 X (upI (upI (upI (upI X 79 7 0) 79 8 0) 95 8 0) 95 9 (-1)) := fr_t (fr_t (fr_t (up_q rfl) (up_q rfl)) (up_q rfl)) (up_q rfl)
  have hT2 : Tkn T n N (upI (upI Xs 95 6 0) 95 7 (Xs 97 ((0 : Int32).toNatClampNeg))) := by unfold Tkn; rw [upI_ne (by decide), upI_ne (by decide), upI_ne (by decide), upI_ne (by decide), upI_ne (by decide), upI_ne (by decide)]; exact hN
  have z := lp_rd79 γ (b := b) (J := J) (T := T) (n := n) (N := N) (X0 := X) N 0 [] (upI (upI Xs 95 6 0) 95 7 (Xs 97 ((0 : Int32).toNatClampNeg))) (by omega) (by decide) hT2 ⟨by omega, ?_, ?_, ?_, ?_⟩ ⟨?_, trivial⟩ (by decide) ?_ trivial (fr_t (fr_t fx (fT_R79 fs)) (fr_t (up_q rfl) (up_q rfl))) (fun res h => h)
  · exact z
  · rw [upI_n (by decide), upI_s]; rfl
  · rw [upI_s]; exact (hN.2.2.1 0 (by omega)).1
  · rw [upI_n (by decide), upI_n (by decide), fs 95 8 rfl, upI_n (by decide), upI_s]
  · rw [upI_n (by decide), upI_n (by decide), fs 95 9 rfl, upI_s]
  · rw [upI_ne (by decide), upI_ne (by decide), fs 79 7 rfl, upI_ne (by decide), upI_ne (by decide), upI_n (by decide), upI_s]; rfl
  · rw [upI_ne (by decide), upI_ne (by decide), fs 79 8 rfl, upI_ne (by decide), upI_ne (by decide), upI_s]; rfl
theorem o_rules79 (γ : GE) {c : Bool} {I : AI} {J : AJ} {T : Nat → Int32} {n : Nat} (hX : Tap T n I) : Ct γ mX11_rules 23 0 0 [.ref 0] (SS true c) I J (fun r S' I' J' => J = J' ∧ ∃ res, (∃ f, RdT T n f 0 [] res) ∧ fr qR79 I I' ∧ RuP true 79 T n I res r S' I') := by
  refine ct_of okX11_rules (L := [some (.ref 0), none]) (Nat.le_of_ble_eq_true rfl) rfl ?_
  refine r_run okX11_rules 4 (cs := []) (σ' := (8, [some (.ref 0), none], [.ref 79, .ref 95], (SS true c), I, J, 0, 0)) rfl trivial ?_
  refine r_callV okX11_rules okX5_read [.ref 79] [] 95 rfl rfl rfl kkX5_read rfl rfl (by decide) rfl rfl rfl (by decide) ⟨Nat.le_refl _, Nat.le_refl _⟩ (Nat.le_of_ble_eq_true rfl) (b_read79 γ hX) (fun v1 S1 I1 J1 hp => ?_)
  obtain ⟨rfl, rfl, res, hc, hfr, h4, hr⟩ := hp
  obtain ⟨Xu, eXu⟩ : ∃ z, z = I1 := ⟨_, rfl⟩
  subst eXu
  cases res with
  | inl e =>
    obtain ⟨rfl, gE⟩ := hr
    show Rj _ _ _ _ _ _ (11, [some (.ref 0), none], [.int 0], (SS true true), Xu, J, 0, 0)
    refine r_ifc okX11_rules rfl (fun (h11 : ¬ (0 : Int32) = (0 : Int32)) => ?_) (fun h110 => ?_)
    · exact absurd h11 (by decide)
    · have h11 : (0 : Int32) = (0 : Int32) := Classical.not_not.mp h110
      refine r_run okX11_rules 1 (cs := []) (σ' := (15, [some (.ref 0), none], [.int (-1)], (SS true true), Xu, J, 0, 0)) rfl trivial ?_
      refine r_iret okX11_rules rfl rfl rfl (Nat.le_refl _) (Nat.le_refl _) ?_
      exact ⟨rfl, .inl e, hc, hfr, h4, rfl, rfl, gE⟩
  | inr ls =>
    obtain ⟨rfl, g8, g9, gl, gn, gO⟩ := hr
    show Rj _ _ _ _ _ _ (11, [some (.ref 0), none], [.int 1], (SS true true), Xu, J, 0, 0)
    refine r_ifc okX11_rules rfl (fun _ => ?_) (fun (h : ¬ ¬ (1 : Int32) = 0) => absurd (by decide) h)
    refine r_run okX11_rules 10 (cs := []) (σ' := (34, [some (.ref 0), some (.ref 87)], [], (SS false true), Xu, J, 0, 0)) rfl trivial ?_
    refine r_run okX11_rules 2 (cs := []) (σ' := (38, [some (.ref 0), some (.ref 87)], [.ref 79], (SS false true), Xu, J, 0, 0)) rfl trivial ?_
    refine r_callV okX11_rules okX6_size [] [] 79 rfl rfl rfl kkX6_size rfl rfl (by decide) rfl rfl rfl (by decide) ⟨Nat.le_refl _, Nat.le_refl _⟩ (Nat.le_of_ble_eq_true rfl) (o_rsize79 γ) (fun v1 S1 I1 J1 hp => ?_)
    obtain ⟨rfl, rfl, rfl, rfl⟩ := hp
    show Rj _ _ _ _ _ _ (41, [some (.ref 0), some (.ref 87)], [.int (Xu 79 8)], (SS false true), Xu, J, 0, 0)
    refine r_iret okX11_rules rfl rfl rfl (Nat.le_refl _) (Nat.le_refl _) ?_
    exact ⟨rfl, .inr ls, hc, hfr, h4, by rw [gn], rfl, g8, g9, gl, gn, gO⟩
theorem b_read87 (γ : GE) {b c : Bool} {X : AI} {J : AJ} {T : Nat → Int32} {n : Nat} (hX : Tap T n X) : Ct γ mX5_read 22 0 0 [.ref 95, .ref 87] (SS b c) X J (fun r S' I' J' => (SS b false) = S' ∧ J = J' ∧ ∃ res, (∃ f, RdT T n f 0 [] res) ∧ RsR87 T n X res r I') := by
  have hX1 : Tap T n (upI (upI (upI (upI X 87 7 0) 87 8 0) 95 8 0) 95 9 (-1)) := ⟨hX.1, by rw [upI_n (by decide), upI_n (by decide), upI_ne (by decide), upI_ne (by decide)]; exact hX.2.1, fun i hi => by rw [upI_ne (by decide), upI_ne (by decide), upI_ne (by decide), upI_ne (by decide)]; exact hX.2.2 i hi⟩
  refine ct_of okX5_read (L := [some (.ref 95), some (.ref 87), none, none]) (Nat.le_of_ble_eq_true rfl) rfl ?_
  refine r_run okX5_read 3 (cs := []) (σ' := (5, [some (.ref 95), some (.ref 87), none, none], [], (SS b false), X, J, 0, 0)) rfl trivial ?_
  refine r_run okX5_read 2 (cs := []) (σ' := (9, [some (.ref 95), some (.ref 87), none, none], [.ref 87], (SS b false), X, J, 0, 0)) rfl trivial ?_
  refine r_callV okX5_read okX6_clear [] [] 87 rfl rfl rfl kkX6_clear rfl rfl (by decide) rfl rfl rfl (by decide) ⟨Nat.le_refl _, Nat.le_refl _⟩ (Nat.le_of_ble_eq_true rfl) (o_rclear87 γ) (fun v1 S1 I1 J1 hp => ?_)
  obtain ⟨rfl, rfl, rfl, rfl⟩ := hp
  show Rj _ _ _ _ _ _ (12, [some (.ref 95), some (.ref 87), none, none], [], (SS b false), (upI (upI X 87 7 0) 87 8 0), J, 0, 0)
  refine r_run okX5_read 7 (cs := []) (σ' := (23, [some (.ref 95), some (.ref 87), none, none], [.ref 95], (SS b false), (upI (upI (upI (upI X 87 7 0) 87 8 0) 95 8 0) 95 9 (-1)), J, 0, 0)) rfl trivial ?_
  refine r_callV okX5_read okX5_scan [] [] 95 rfl rfl rfl kkX5_scan rfl rfl (by decide) rfl rfl rfl (by decide) ⟨Nat.le_refl _, Nat.le_refl _⟩ (Nat.le_of_ble_eq_true rfl) (t_scan γ (T := T) (n := n) hX1) (fun v1 S1 I1 J1 hp => ?_)
  obtain ⟨rfl, rfl, ⟨fs, N, hN⟩, rfl⟩ := hp
  obtain ⟨Xs, eXs⟩ : ∃ z, z = I1 := ⟨_, rfl⟩
  subst eXs
  show Rj _ _ _ _ _ _ (26, [some (.ref 95), some (.ref 87), none, none], [], (SS b false), Xs, J, 0, 0)
  refine r_run okX5_read 13 (cs := [vp_in 0 801]) (σ' := (45, [some (.ref 95), some (.ref 87), some (.int 1), some (.int 0)], [], (SS b false), (upI (upI Xs 95 6 0) 95 7 (Xs 97 ((0 : Int32).toNatClampNeg))), J, 0, 0)) rfl ⟨(show vp_in (nI 0) 801 from vin (by decide) (by decide)), trivial⟩ ?_
  have fx : fr qR87 X (upI (upI (upI (upI X 87 7 0) 87 8 0) 95 8 0) 95 9 (-1)) := fr_t (fr_t (fr_t (up_q rfl) (up_q rfl)) (up_q rfl)) (up_q rfl)
  have hT2 : Tkn T n N (upI (upI Xs 95 6 0) 95 7 (Xs 97 ((0 : Int32).toNatClampNeg))) := by unfold Tkn; rw [upI_ne (by decide), upI_ne (by decide), upI_ne (by decide), upI_ne (by decide), upI_ne (by decide), upI_ne (by decide)]; exact hN
  have z := lp_rd87 γ (b := b) (J := J) (T := T) (n := n) (N := N) (X0 := X) N 0 [] (upI (upI Xs 95 6 0) 95 7 (Xs 97 ((0 : Int32).toNatClampNeg))) (by omega) (by decide) hT2 ⟨by omega, ?_, ?_, ?_, ?_⟩ ⟨?_, trivial⟩ (by decide) ?_ trivial (fr_t (fr_t fx (fT_R87 fs)) (fr_t (up_q rfl) (up_q rfl))) (fun res h => h)
  · exact z
  · rw [upI_n (by decide), upI_s]; rfl
  · rw [upI_s]; exact (hN.2.2.1 0 (by omega)).1
  · rw [upI_n (by decide), upI_n (by decide), fs 95 8 rfl, upI_n (by decide), upI_s]
  · rw [upI_n (by decide), upI_n (by decide), fs 95 9 rfl, upI_s]
  · rw [upI_ne (by decide), upI_ne (by decide), fs 87 7 rfl, upI_ne (by decide), upI_ne (by decide), upI_n (by decide), upI_s]; rfl
  · rw [upI_ne (by decide), upI_ne (by decide), fs 87 8 rfl, upI_ne (by decide), upI_ne (by decide), upI_s]; rfl
theorem o_rules87 (γ : GE) {c : Bool} {I : AI} {J : AJ} {T : Nat → Int32} {n : Nat} (hX : Tap T n I) : Ct γ mX11_rules 23 0 0 [.ref 0] (SS false c) I J (fun r S' I' J' => J = J' ∧ ∃ res, (∃ f, RdT T n f 0 [] res) ∧ fr qR87 I I' ∧ RuP false 87 T n I res r S' I') := by
  refine ct_of okX11_rules (L := [some (.ref 0), none]) (Nat.le_of_ble_eq_true rfl) rfl ?_
  refine r_run okX11_rules 4 (cs := []) (σ' := (8, [some (.ref 0), none], [.ref 87, .ref 95], (SS false c), I, J, 0, 0)) rfl trivial ?_
  refine r_callV okX11_rules okX5_read [.ref 87] [] 95 rfl rfl rfl kkX5_read rfl rfl (by decide) rfl rfl rfl (by decide) ⟨Nat.le_refl _, Nat.le_refl _⟩ (Nat.le_of_ble_eq_true rfl) (b_read87 γ hX) (fun v1 S1 I1 J1 hp => ?_)
  obtain ⟨rfl, rfl, res, hc, hfr, h4, hr⟩ := hp
  obtain ⟨Xu, eXu⟩ : ∃ z, z = I1 := ⟨_, rfl⟩
  subst eXu
  cases res with
  | inl e =>
    obtain ⟨rfl, gE⟩ := hr
    show Rj _ _ _ _ _ _ (11, [some (.ref 0), none], [.int 0], (SS false false), Xu, J, 0, 0)
    refine r_ifc okX11_rules rfl (fun (h11 : ¬ (0 : Int32) = (0 : Int32)) => ?_) (fun h110 => ?_)
    · exact absurd h11 (by decide)
    · have h11 : (0 : Int32) = (0 : Int32) := Classical.not_not.mp h110
      refine r_run okX11_rules 1 (cs := []) (σ' := (15, [some (.ref 0), none], [.int (-1)], (SS false false), Xu, J, 0, 0)) rfl trivial ?_
      refine r_iret okX11_rules rfl rfl rfl (Nat.le_refl _) (Nat.le_refl _) ?_
      exact ⟨rfl, .inl e, hc, hfr, h4, rfl, rfl, gE⟩
  | inr ls =>
    obtain ⟨rfl, g8, g9, gl, gn, gO⟩ := hr
    show Rj _ _ _ _ _ _ (11, [some (.ref 0), none], [.int 1], (SS false false), Xu, J, 0, 0)
    refine r_ifc okX11_rules rfl (fun _ => ?_) (fun (h : ¬ ¬ (1 : Int32) = 0) => absurd (by decide) h)
    refine r_run okX11_rules 10 (cs := []) (σ' := (34, [some (.ref 0), some (.ref 79)], [], (SS true false), Xu, J, 0, 0)) rfl trivial ?_
    refine r_run okX11_rules 2 (cs := []) (σ' := (38, [some (.ref 0), some (.ref 79)], [.ref 87], (SS true false), Xu, J, 0, 0)) rfl trivial ?_
    refine r_callV okX11_rules okX6_size [] [] 87 rfl rfl rfl kkX6_size rfl rfl (by decide) rfl rfl rfl (by decide) ⟨Nat.le_refl _, Nat.le_refl _⟩ (Nat.le_of_ble_eq_true rfl) (o_rsize87 γ) (fun v1 S1 I1 J1 hp => ?_)
    obtain ⟨rfl, rfl, rfl, rfl⟩ := hp
    show Rj _ _ _ _ _ _ (41, [some (.ref 0), some (.ref 79)], [.int (Xu 87 8)], (SS true false), Xu, J, 0, 0)
    refine r_iret okX11_rules rfl rfl rfl (Nat.le_refl _) (Nat.le_refl _) ?_
    exact ⟨rfl, .inr ls, hc, hfr, h4, by rw [gn], rfl, g8, g9, gl, gn, gO⟩
