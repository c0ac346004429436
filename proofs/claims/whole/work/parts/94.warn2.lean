/-! ===== Warnings: issue, judge, safe ===== -/
def opnI (I : AI) (n k : Nat) (x e : Int32) : AI := upI (upI (upI (upI (upI (upI (upI I 53 n (nI k)) 54 n x) 55 n e) 56 n (I 61 k)) 57 n 0) 60 k (nI n)) 52 11 (nI n + 1)
def OpP (J : AJ) (n : Nat) (f : Nat → Bool) (J' : AJ) : Prop := kJ [58, 59, 62] J J' ∧ w48 (J' 58 n) ∧ w48 (J' 59 n) ∧ (∀ y, y < 96 → hs (J' 58 n) (J' 59 n) y = fromN 511 f 96 y) ∧ ∀ w, ¬ w = n → J' 58 w = J 58 w ∧ J' 59 w = J 59 w
theorem o_open (γ : GE) {b c : Bool} {I : AI} {J : AJ} {n k : Nat} (hn : n < 200) (hk : k < 8) (en : I 52 11 = nI n) {f : Nat → Bool} (hs7 : cs J 7 f) (x e : Int32) : Ct γ mX10_open 2 0 0 [.ref 52, .int (nI k), .int x, .int e] (SS b c) I J (fun rt S' I' J' => none = rt ∧ (SS b c) = S' ∧ opnI I n k x e = I' ∧ OpP J n f J') := by
  have cn : (nI n).toNatClampNeg = n := nI_clamp (by omega)
  have ck : (nI k).toNatClampNeg = k := nI_clamp (by omega)
  refine ct_of okX10_open (L := [some (.ref 52), some (.int (nI k)), some (.int x), some (.int e)]) (Nat.le_of_ble_eq_true rfl) rfl ?_
  refine r_run okX10_open 38 (cs := [vp_in (I 52 11) 200, vp_in (I 52 11) 200, vp_in (I 52 11) 200, vp_in (nI k) 8, vp_in (I 52 11) 200, vp_in (I 52 11) 200]) (σ' := (66, [some (.ref 52), some (.int (nI k)), some (.int x), some (.int e)], [.ref 7, .ref 62], (SS b c), (upI (upI (upI (upI (upI I 53 ((I 52 11).toNatClampNeg) (nI k)) 54 ((I 52 11).toNatClampNeg) x) 55 ((I 52 11).toNatClampNeg) e) 56 ((I 52 11).toNatClampNeg) (I 61 ((nI k).toNatClampNeg))) 57 ((I 52 11).toNatClampNeg) 0), J, 0, 0)) rfl ⟨(by rw [en]; exact vin hn (by decide)), (by rw [en]; exact vin hn (by decide)), (by rw [en]; exact vin hn (by decide)), (vin hk (by decide)), (by rw [en]; exact vin hn (by decide)), (by rw [en]; exact vin hn (by decide)), trivial⟩ ?_
  simp only [en, cn, ck]
  show Rj _ _ _ _ _ _ (66, [some (.ref 52), some (.int (nI k)), some (.int x), some (.int e)], [.ref 7, .ref 62], (SS b c), (upI (upI (upI (upI (upI I 53 n (nI k)) 54 n x) 55 n e) 56 n (I 61 k)) 57 n 0), J, 0, 0)
  refine r_callV okX10_open okX0_copy [.ref 7] [] 62 rfl rfl rfl kkX0_copy rfl rfl (by decide) rfl rfl rfl (by decide) ⟨Nat.le_refl _, Nat.le_refl _⟩ (Nat.le_of_ble_eq_true rfl) (a_copy γ rfl rfl hs7) (fun v1 S1 I1 J1 hp => ?_)
  obtain ⟨rfl, rfl, rfl, J1, rfl, k1, c1⟩ := hp
  show Rj _ _ _ _ _ _ (69, [some (.ref 52), some (.int (nI k)), some (.int x), some (.int e)], [], (SS b c), (upI (upI (upI (upI (upI I 53 n (nI k)) 54 n x) 55 n e) 56 n (I 61 k)) 57 n 0), J1, 0, 0)
  refine r_run okX10_open 3 (cs := []) (σ' := (76, [some (.ref 52), some (.int (nI k)), some (.int x), some (.int e)], [.int 511, .ref 62], (SS b c), (upI (upI (upI (upI (upI I 53 n (nI k)) 54 n x) 55 n e) 56 n (I 61 k)) 57 n 0), J1, 0, 0)) rfl trivial ?_
  refine r_callV okX10_open okX0_spread [.int 511] [] 62 rfl rfl rfl kkX0_spread rfl rfl (by decide) rfl rfl rfl (by decide) ⟨Nat.le_refl _, Nat.le_refl _⟩ (Nat.le_of_ble_eq_true rfl) (a_spread γ rfl c1 (M := 511) (by decide) rfl) (fun v1 S1 I1 J1 hp => ?_)
  obtain ⟨rfl, rfl, rfl, J2, rfl, k2, c2⟩ := hp
  show Rj _ _ _ _ _ _ (79, [some (.ref 52), some (.int (nI k)), some (.int x), some (.int e)], [], (SS b c), (upI (upI (upI (upI (upI I 53 n (nI k)) 54 n x) 55 n e) 56 n (I 61 k)) 57 n 0), J2, 0, 0)
  refine r_run okX10_open 28 (cs := [vp_in (I 52 11) 200, vp_in (I 52 11) 200, vp_in (nI k) 8]) (σ' := (131, [some (.ref 52), some (.int (nI k)), some (.int x), some (.int e)], [], (SS b c), (upI (upI (upI (upI (upI (upI (upI I 53 n (nI k)) 54 n x) 55 n e) 56 n (I 61 k)) 57 n 0) 60 ((nI k).toNatClampNeg) (I 52 11)) 52 11 ((I 52 11) + 1)), (upJ (upJ J2 58 ((I 52 11).toNatClampNeg) (J2 62 0)) 59 ((I 52 11).toNatClampNeg) (J2 62 1)), 0, 0)) rfl ⟨(by rw [en]; exact vin hn (by decide)), (by rw [en]; exact vin hn (by decide)), (vin hk (by decide)), trivial⟩ ?_
  simp only [en, cn, ck]
  show Rj _ _ _ _ _ _ (131, [some (.ref 52), some (.int (nI k)), some (.int x), some (.int e)], [], (SS b c), (upI (upI (upI (upI (upI (upI (upI I 53 n (nI k)) 54 n x) 55 n e) 56 n (I 61 k)) 57 n 0) 60 k (nI n)) 52 11 ((nI n) + 1)), (upJ (upJ J2 58 n (J2 62 0)) 59 n (J2 62 1)), 0, 0)
  refine r_vret okX10_open rfl rfl (Nat.le_refl _) (Nat.le_refl _) ?_
  have f1 : ∀ w, J2 58 w = J 58 w := fun w => by rw [k2 58 (by decide), k1 58 (by decide)]
  have f2 : ∀ w, J2 59 w = J 59 w := fun w => by rw [k2 59 (by decide), k1 59 (by decide)]
  refine ⟨rfl, rfl, rfl, kJ_t (kJ_m (by decide) k1) (kJ_t (kJ_m (by decide) k2) (kJ_t (kJ_up (by decide)) (kJ_up (by decide)))), ?_, ?_, ?_, ?_⟩
  · show w48 (upJ (upJ J2 58 n (J2 62 0)) 59 n (J2 62 1) 58 n)
    rw [show upJ (upJ J2 58 n (J2 62 0)) 59 n (J2 62 1) 58 n = J2 62 0 by simp [upJ]]; exact c2.1
  · show w48 (upJ (upJ J2 58 n (J2 62 0)) 59 n (J2 62 1) 59 n)
    rw [show upJ (upJ J2 58 n (J2 62 0)) 59 n (J2 62 1) 59 n = J2 62 1 by simp [upJ]]; exact c2.2.1
  · intro y hy
    rw [show upJ (upJ J2 58 n (J2 62 0)) 59 n (J2 62 1) 58 n = J2 62 0 by simp [upJ], show upJ (upJ J2 58 n (J2 62 0)) 59 n (J2 62 1) 59 n = J2 62 1 by simp [upJ]]
    exact c2.2.2 y hy
  · intro w hw
    exact ⟨(show upJ (upJ J2 58 n (J2 62 0)) 59 n (J2 62 1) 58 w = J2 58 w by simp [upJ, hw]).trans (f1 w), (show upJ (upJ J2 58 n (J2 62 0)) 59 n (J2 62 1) 59 w = J2 59 w by simp [upJ, hw]).trans (f2 w)⟩
def IsP (I : AI) (J : AJ) (k : Nat) (m : Int32) (f : Nat → Bool) (I' : AI) (J' : AJ) : Prop := match thr I (nI k) (I 100 5) with
  | some w => upI I 55 w (if I 129 w < I 100 5 + m then I 100 5 + m else I 129 w) = I' ∧ J = J'
  | none => (I 100 45 = 200 ∧ I = I' ∧ J = J') ∨ (¬ I 100 45 = 200 ∧ opnI I (nv (I 100 45)) k (I 100 5) (I 100 5 + m) = I' ∧ OpP J (nv (I 100 45)) f J')
theorem o_issue1 (γ : GE) {b c : Bool} {I : AI} {J : AJ} (hO : OWar I J) (hI : MWar I) (hD : WDis I) {k : Nat} (hk : k < 8) (m : Int32) {f : Nat → Bool} (hs7 : cs J 7 f) {w : Nat} (he : thr I (nI k) (I 100 5) = some w) : Ct γ mX10_issue 3 0 0 [.ref 52, .int (nI k), .int (I 100 5), .int m] (SS b c) I J (fun rt S' I' J' => some (.int (begV I (nI k))) = rt ∧ (SS b c) = S' ∧ IsP I J k m f I' J') := by
  have eb : bsI (thr I (nI k) (I 100 5)) = nI w := by rw [he]; rfl
  have hw := (thr_lt hI.1 he).1
  have hw2 : w < 200 := by have := (rg_nv hI.1 (by decide)).1; omega
  have cw : (nI w).toNatClampNeg = w := nI_clamp (by omega)
  obtain ⟨e53, e54, e55, e56, e57, l1, l2, l3⟩ := hO.2.1 w hw
  refine ct_of okX10_issue (L := [some (.ref 52), some (.int (nI k)), some (.int (I 100 5)), some (.int m), none]) (Nat.le_of_ble_eq_true rfl) rfl ?_
  refine r_run okX10_issue 3 (cs := []) (σ' := (3, [some (.ref 52), some (.int (nI k)), some (.int (I 100 5)), some (.int m), none], [.int (I 100 5), .int (nI k), .ref 52], (SS b c), I, J, 0, 0)) rfl trivial ?_
  refine r_callV okX10_issue okX10_current [.int (nI k), .int (I 100 5)] [] 52 rfl rfl rfl kkX10_current rfl rfl (by decide) rfl rfl rfl (by decide) ⟨Nat.le_refl _, Nat.le_refl _⟩ (Nat.le_of_ble_eq_true rfl) (o_current γ hO hI hD hk rfl) (fun v1 S1 I1 J1 hp => ?_)
  obtain ⟨rfl, rfl, rfl, rfl⟩ := hp
  show Rj _ _ _ _ _ _ (6, [some (.ref 52), some (.int (nI k)), some (.int (I 100 5)), some (.int m), none], [.int (bsI (thr I (nI k) (I 100 5)))], (SS b c), I, J, 0, 0)
  simp only [eb]
  show Rj _ _ _ _ _ _ (6, [some (.ref 52), some (.int (nI k)), some (.int (I 100 5)), some (.int m), none], [.int (nI w)], (SS b c), I, J, 0, 0)
  refine r_run okX10_issue 3 (cs := []) (σ' := (11, [some (.ref 52), some (.int (nI k)), some (.int (I 100 5)), some (.int m), some (.int (nI w))], [.int (-1), .int (nI w)], (SS b c), I, J, 0, 0)) rfl trivial ?_
  refine r_icmp okX10_issue rfl (fun (h11 : (nI w) = ((-1) : Int32)) => ?_) (fun (h11 : ¬ (nI w) = ((-1) : Int32)) => ?_)
  · exact absurd h11 (nI_m1 (by omega))
  · refine r_run okX10_issue 10 (cs := [vp_in (nI w) 200]) (σ' := (30, [some (.ref 52), some (.int (nI k)), some (.int (I 100 5)), some (.int m), some (.int (nI w))], [.int ((I 100 5) + m), .int (I 55 ((nI w).toNatClampNeg)), .int (nI w), .ref 55], (SS b c), I, J, 0, 0)) rfl ⟨(vin hw2 (by decide)), trivial⟩ ?_
    simp only [cw, e55]
    show Rj _ _ _ _ _ _ (30, [some (.ref 52), some (.int (nI k)), some (.int (I 100 5)), some (.int m), some (.int (nI w))], [.int ((I 100 5) + m), .int (I 129 w), .int (nI w), .ref 55], (SS b c), I, J, 0, 0)
    refine r_mmax okX10_issue rfl rfl ⟨Nat.le_refl _, Nat.le_refl _⟩ (Nat.le_of_ble_eq_true rfl) ?_
    show Rj _ _ _ _ _ _ (33, [some (.ref 52), some (.int (nI k)), some (.int (I 100 5)), some (.int m), some (.int (nI w))], [.int (if (I 129 w) < ((I 100 5) + m) then ((I 100 5) + m) else (I 129 w)), .int (nI w), .ref 55], (SS b c), I, J, 0, 0)
    refine r_run okX10_issue 2 (cs := [vp_in (nI w) 200]) (σ' := (36, [some (.ref 52), some (.int (nI k)), some (.int (I 100 5)), some (.int m), some (.int (nI w))], [.int (nI w)], (SS b c), (upI I 55 ((nI w).toNatClampNeg) (if (I 129 w) < ((I 100 5) + m) then ((I 100 5) + m) else (I 129 w))), J, 0, 0)) rfl ⟨(vin hw2 (by decide)), trivial⟩ ?_
    simp only [cw]
    show Rj _ _ _ _ _ _ (36, [some (.ref 52), some (.int (nI k)), some (.int (I 100 5)), some (.int m), some (.int (nI w))], [.int (nI w)], (SS b c), (upI I 55 w (if (I 129 w) < ((I 100 5) + m) then ((I 100 5) + m) else (I 129 w))), J, 0, 0)
    refine r_iret okX10_issue rfl rfl rfl (Nat.le_refl _) (Nat.le_refl _) ?_
    refine ⟨by unfold begV; rw [he], rfl, ?_⟩
    unfold IsP
    rw [he]
    exact ⟨rfl, rfl⟩
theorem o_issue0 (γ : GE) {b c : Bool} {I : AI} {J : AJ} (hO : OWar I J) (hI : MWar I) (hD : WDis I) {k : Nat} (hk : k < 8) (m : Int32) {f : Nat → Bool} (hs7 : cs J 7 f) (he : thr I (nI k) (I 100 5) = none) : Ct γ mX10_issue 3 0 0 [.ref 52, .int (nI k), .int (I 100 5), .int m] (SS b c) I J (fun rt S' I' J' => some (.int (begV I (nI k))) = rt ∧ (SS b c) = S' ∧ IsP I J k m f I' J') := by
  have eb : bsI (thr I (nI k) (I 100 5)) = -1 := by rw [he]; rfl
  obtain ⟨n, hn, en⟩ := hI.1
  have e11 := hO.1.trans en
  have epm : (nI n) + 1 - 1 = nI n := by rw [nI_eq1]; exact nI_pred n
  refine ct_of okX10_issue (L := [some (.ref 52), some (.int (nI k)), some (.int (I 100 5)), some (.int m), none]) (Nat.le_of_ble_eq_true rfl) rfl ?_
  refine r_run okX10_issue 3 (cs := []) (σ' := (3, [some (.ref 52), some (.int (nI k)), some (.int (I 100 5)), some (.int m), none], [.int (I 100 5), .int (nI k), .ref 52], (SS b c), I, J, 0, 0)) rfl trivial ?_
  refine r_callV okX10_issue okX10_current [.int (nI k), .int (I 100 5)] [] 52 rfl rfl rfl kkX10_current rfl rfl (by decide) rfl rfl rfl (by decide) ⟨Nat.le_refl _, Nat.le_refl _⟩ (Nat.le_of_ble_eq_true rfl) (o_current γ hO hI hD hk rfl) (fun v1 S1 I1 J1 hp => ?_)
  obtain ⟨rfl, rfl, rfl, rfl⟩ := hp
  show Rj _ _ _ _ _ _ (6, [some (.ref 52), some (.int (nI k)), some (.int (I 100 5)), some (.int m), none], [.int (bsI (thr I (nI k) (I 100 5)))], (SS b c), I, J, 0, 0)
  simp only [eb]
  show Rj _ _ _ _ _ _ (6, [some (.ref 52), some (.int (nI k)), some (.int (I 100 5)), some (.int m), none], [.int (-1)], (SS b c), I, J, 0, 0)
  refine r_run okX10_issue 3 (cs := []) (σ' := (11, [some (.ref 52), some (.int (nI k)), some (.int (I 100 5)), some (.int m), some (.int (-1))], [.int (-1), .int (-1)], (SS b c), I, J, 0, 0)) rfl trivial ?_
  refine r_icmp okX10_issue rfl (fun (h11 : ((-1) : Int32) = ((-1) : Int32)) => ?_) (fun (h11 : ¬ ((-1) : Int32) = ((-1) : Int32)) => ?_)
  · refine r_run okX10_issue 3 (cs := []) (σ' := (44, [some (.ref 52), some (.int (nI k)), some (.int (I 100 5)), some (.int m), some (.int (-1))], [.int 200, .int (I 52 11)], (SS b c), I, J, 0, 0)) rfl trivial ?_
    simp only [e11]
    show Rj _ _ _ _ _ _ (44, [some (.ref 52), some (.int (nI k)), some (.int (I 100 5)), some (.int m), some (.int (-1))], [.int 200, .int (nI n)], (SS b c), I, J, 0, 0)
    refine r_icmp okX10_issue rfl (fun (h44 : (nI n) < (200 : Int32)) => ?_) (fun (h44 : ¬ (nI n) < (200 : Int32)) => ?_)
    · have hn2 : n < 200 := Nat.lt_of_not_le fun z => absurd h44 (nI_nlt (a := n) (b := 200) z (by omega))
      refine r_run okX10_issue 6 (cs := []) (σ' := (55, [some (.ref 52), some (.int (nI k)), some (.int (I 100 5)), some (.int m), some (.int (-1))], [.int ((I 100 5) + m), .int (I 100 5), .int (nI k), .ref 52], (SS b c), I, J, 0, 0)) rfl trivial ?_
      refine r_callV okX10_issue okX10_open [.int (nI k), .int (I 100 5), .int ((I 100 5) + m)] [] 52 rfl rfl rfl kkX10_open rfl rfl (by decide) rfl rfl rfl (by decide) ⟨Nat.le_refl _, Nat.le_refl _⟩ (Nat.le_of_ble_eq_true rfl) (o_open γ (n := n) hn2 hk e11 hs7 (I 100 5) (I 100 5 + m)) (fun v1 S1 I1 J1 hp => ?_)
      obtain ⟨rfl, rfl, rfl, hop⟩ := hp
      obtain ⟨J3, hJ3⟩ : ∃ z, z = J1 := ⟨_, rfl⟩
      subst hJ3
      show Rj _ _ _ _ _ _ (58, [some (.ref 52), some (.int (nI k)), some (.int (I 100 5)), some (.int m), some (.int (-1))], [], (SS b c), (opnI I n k (I 100 5) (I 100 5 + m)), J3, 0, 0)
      refine r_run okX10_issue 4 (cs := []) (σ' := (64, [some (.ref 52), some (.int (nI k)), some (.int (I 100 5)), some (.int m), some (.int (-1))], [.int (((opnI I n k (I 100 5) (I 100 5 + m)) 52 11) - 1)], (SS b c), (opnI I n k (I 100 5) (I 100 5 + m)), J3, 0, 0)) rfl trivial ?_
      refine r_iret okX10_issue rfl rfl rfl (Nat.le_refl _) (Nat.le_refl _) ?_
      have hne : ¬ I 100 45 = 200 := fun z => absurd (nI_inj (a := n) (b := 200) (by omega) (by decide) (en.symm.trans z)) (by omega)
      refine ⟨by unfold begV; rw [he]; simp only; rw [if_neg hne, en]; show some (Value.int (nI n)) = some (Value.int (nI n + 1 - 1)); rw [epm], rfl, ?_⟩
      unfold IsP
      rw [he]
      refine Or.inr ⟨hne, ?_, ?_⟩
      · rw [en, nv_nI (by omega)]
      · rw [en, nv_nI (by omega)]; exact hop
    · have hn2 : n = 200 := by have := Nat.le_of_not_lt fun z => h44 (nI_lt (a := n) (b := 200) z (by decide)); omega
      refine r_run okX10_issue 1 (cs := []) (σ' := (48, [some (.ref 52), some (.int (nI k)), some (.int (I 100 5)), some (.int m), some (.int (-1))], [.int (-1)], (SS b c), I, J, 0, 0)) rfl trivial ?_
      refine r_iret okX10_issue rfl rfl rfl (Nat.le_refl _) (Nat.le_refl _) ?_
      subst hn2
      refine ⟨by unfold begV; rw [he]; simp only; rw [if_pos (show I 100 45 = 200 from en)], rfl, ?_⟩
      unfold IsP
      rw [he]
      exact Or.inl ⟨en, rfl, rfl⟩
  · exact absurd h11 (by decide)
theorem o_issue (γ : GE) {b c : Bool} {I : AI} {J : AJ} (hO : OWar I J) (hI : MWar I) (hD : WDis I) {k : Nat} (hk : k < 8) (m : Int32) {f : Nat → Bool} (hs7 : cs J 7 f) {x : Int32} (hx : x = I 100 5) : Ct γ mX10_issue 3 0 0 [.ref 52, .int (nI k), .int x, .int m] (SS b c) I J (fun rt S' I' J' => some (.int (begV I (nI k))) = rt ∧ (SS b c) = S' ∧ IsP I J k m f I' J') := by
  subst hx
  cases he : thr I (nI k) (I 100 5) with
  | none => exact o_issue0 γ hO hI hD hk m hs7 he
  | some w => exact o_issue1 γ hO hI hD hk m hs7 he
theorem lp_run (γ : GE) {b c : Bool} {I : AI} {J : AJ} (hO : OWar I J) (hI : MWar I) (hD : WDis I) : ∀ (j q : Nat), q + j = 8 → Rj γ mX10_running 1 0 0 (rI (nI (cnt (fun k => (thr I (nI k) (I 100 5)).isSome) 8)) (SS b c) I J) (4, [some (.ref 52), some (.int (I 100 5)), some (.int (nI (cnt (fun k => (thr I (nI k) (I 100 5)).isSome) q))), some (.int (nI q))], [], (SS b c), I, J, 0, 0) := by
  intro j
  induction j with
  | zero =>
    intro q  hj
    refine r_run okX10_running 2 (cs := []) (σ' := (7, [some (.ref 52), some (.int (I 100 5)), some (.int (nI (cnt (fun k => (thr I (nI k) (I 100 5)).isSome) q))), some (.int (nI q))], [.int 8, .int (nI q)], (SS b c), I, J, 0, 0)) rfl trivial ?_
    refine r_icmp okX10_running rfl (fun (h7 : (8 : Int32) ≤ (nI q)) => ?_) (fun (h7 : ¬ (8 : Int32) ≤ (nI q)) => ?_)
    · refine r_run okX10_running 1 (cs := []) (σ' := (30, [some (.ref 52), some (.int (I 100 5)), some (.int (nI (cnt (fun k => (thr I (nI k) (I 100 5)).isSome) q))), some (.int (nI q))], [.int (nI (cnt (fun k => (thr I (nI k) (I 100 5)).isSome) q))], (SS b c), I, J, 0, 0)) rfl trivial ?_
      refine r_iret okX10_running rfl rfl rfl (Nat.le_refl _) (Nat.le_refl _) ?_
      have e : q = 8 := by omega
      subst e
      exact ⟨rfl, rfl, rfl, rfl⟩
    · exact absurd (nI_le (a := 8) (b := q) (by omega) (by omega)) h7
  | succ j ih =>
    intro q  hj
    refine r_run okX10_running 2 (cs := []) (σ' := (7, [some (.ref 52), some (.int (I 100 5)), some (.int (nI (cnt (fun k => (thr I (nI k) (I 100 5)).isSome) q))), some (.int (nI q))], [.int 8, .int (nI q)], (SS b c), I, J, 0, 0)) rfl trivial ?_
    refine r_icmp okX10_running rfl (fun (h7 : (8 : Int32) ≤ (nI q)) => ?_) (fun (h7 : ¬ (8 : Int32) ≤ (nI q)) => ?_)
    · exact absurd h7 (nI_ge (a := q) (b := 8) (by omega) (by decide))
    · refine r_run okX10_running 3 (cs := []) (σ' := (13, [some (.ref 52), some (.int (I 100 5)), some (.int (nI (cnt (fun k => (thr I (nI k) (I 100 5)).isSome) q))), some (.int (nI q))], [.int (I 100 5), .int (nI q), .ref 52], (SS b c), I, J, 0, 0)) rfl trivial ?_
      refine r_callV okX10_running okX10_current [.int (nI q), .int (I 100 5)] [] 52 rfl rfl rfl kkX10_current rfl rfl (by decide) rfl rfl rfl (by decide) ⟨Nat.le_refl _, Nat.le_refl _⟩ (Nat.le_of_ble_eq_true rfl) (o_current γ hO hI hD (k := q) (by omega) rfl) (fun v1 S1 I1 J1 hp => ?_)
      obtain ⟨rfl, rfl, rfl, rfl⟩ := hp
      show Rj _ _ _ _ _ _ (16, [some (.ref 52), some (.int (I 100 5)), some (.int (nI (cnt (fun k => (thr I (nI k) (I 100 5)).isSome) q))), some (.int (nI q))], [.int (bsI (thr I (nI q) (I 100 5)))], (SS b c), I, J, 0, 0)
      refine r_run okX10_running 1 (cs := []) (σ' := (17, [some (.ref 52), some (.int (I 100 5)), some (.int (nI (cnt (fun k => (thr I (nI k) (I 100 5)).isSome) q))), some (.int (nI q))], [.int (-1), .int (bsI (thr I (nI q) (I 100 5)))], (SS b c), I, J, 0, 0)) rfl trivial ?_
      refine r_icmp okX10_running rfl (fun (h17 : (bsI (thr I (nI q) (I 100 5))) = ((-1) : Int32)) => ?_) (fun (h17 : ¬ (bsI (thr I (nI q) (I 100 5))) = ((-1) : Int32)) => ?_)
      · refine r_run okX10_running 2 (cs := []) (σ' := (4, [some (.ref 52), some (.int (I 100 5)), some (.int (nI (cnt (fun k => (thr I (nI k) (I 100 5)).isSome) q))), some (.int ((nI q) + 1))], [], (SS b c), I, J, 0, 0)) rfl trivial ?_
        have e : (thr I (nI q) (I 100 5)).isSome = false := by
          cases z : thr I (nI q) (I 100 5) with
          | none => rfl
          | some u => rw [z] at h17; exact absurd h17 (nI_m1 (by have := (thr_lt hI.1 z).2; omega))
        rw [nI_eq1]
        have h := ih (q + 1) (by omega)
        rw [show cnt (fun k => (thr I (nI k) (I 100 5)).isSome) (q + 1) = cnt (fun k => (thr I (nI k) (I 100 5)).isSome) q + (if (thr I (nI q) (I 100 5)).isSome then 1 else 0) from rfl, e] at h
        exact h
      · refine r_run okX10_running 3 (cs := []) (σ' := (4, [some (.ref 52), some (.int (I 100 5)), some (.int ((nI (cnt (fun k => (thr I (nI k) (I 100 5)).isSome) q)) + 1)), some (.int ((nI q) + 1))], [], (SS b c), I, J, 0, 0)) rfl trivial ?_
        have e : (thr I (nI q) (I 100 5)).isSome = true := by
          cases z : thr I (nI q) (I 100 5) with
          | none => rw [z] at h17; exact absurd rfl h17
          | some u => rfl
        rw [nI_eq1, nI_eq1]
        have h := ih (q + 1) (by omega)
        rw [show cnt (fun k => (thr I (nI k) (I 100 5)).isSome) (q + 1) = cnt (fun k => (thr I (nI k) (I 100 5)).isSome) q + (if (thr I (nI q) (I 100 5)).isSome then 1 else 0) from rfl, e] at h
        exact h
theorem o_running (γ : GE) {b c : Bool} {I : AI} {J : AJ} (hO : OWar I J) (hI : MWar I) (hD : WDis I) : Ct γ mX10_running 1 0 0 [.ref 52, .int (I 100 5)] (SS b c) I J (rI (nI (cnt (fun k => (thr I (nI k) (I 100 5)).isSome) 8)) (SS b c) I J) := by
  refine ct_of okX10_running (L := [some (.ref 52), some (.int (I 100 5)), none, none]) (Nat.le_of_ble_eq_true rfl) rfl ?_
  refine r_run okX10_running 4 (cs := []) (σ' := (4, [some (.ref 52), some (.int (I 100 5)), some (.int 0), some (.int 0)], [], (SS b c), I, J, 0, 0)) rfl trivial ?_
  exact lp_run γ hO hI hD 8 0 (by omega)
theorem lp_jas (γ : GE) {b c : Bool} {I : AI} {J : AJ} (hO : OWar I J) {n : Nat} (hn : n < 201) (en : I 100 45 = nI n) (v : Int32) : ∀ (j q : Nat), q + j = n → Rj γ mX10_judgedAs 0 0 0 (rI (nI (cnt (fun w => decide (I 131 w = v)) n)) (SS b c) I J) (4, [some (.ref 52), some (.int v), some (.int (nI (cnt (fun w => decide (I 131 w = v)) q))), some (.int (nI q))], [], (SS b c), I, J, 0, 0) := by
  intro j
  induction j with
  | zero =>
    intro q  hj
    have e11 := hO.1.trans en
    refine r_run okX10_judgedAs 3 (cs := []) (σ' := (9, [some (.ref 52), some (.int v), some (.int (nI (cnt (fun w => decide (I 131 w = v)) q))), some (.int (nI q))], [.int (I 52 11), .int (nI q)], (SS b c), I, J, 0, 0)) rfl trivial ?_
    simp only [e11]
    show Rj _ _ _ _ _ _ (9, [some (.ref 52), some (.int v), some (.int (nI (cnt (fun w => decide (I 131 w = v)) q))), some (.int (nI q))], [.int (nI n), .int (nI q)], (SS b c), I, J, 0, 0)
    refine r_icmp okX10_judgedAs rfl (fun (h9 : (nI n) ≤ (nI q)) => ?_) (fun (h9 : ¬ (nI n) ≤ (nI q)) => ?_)
    · refine r_run okX10_judgedAs 1 (cs := []) (σ' := (32, [some (.ref 52), some (.int v), some (.int (nI (cnt (fun w => decide (I 131 w = v)) q))), some (.int (nI q))], [.int (nI (cnt (fun w => decide (I 131 w = v)) q))], (SS b c), I, J, 0, 0)) rfl trivial ?_
      refine r_iret okX10_judgedAs rfl rfl rfl (Nat.le_refl _) (Nat.le_refl _) ?_
      have e : q = n := by omega
      subst e
      exact ⟨rfl, rfl, rfl, rfl⟩
    · exact absurd (nI_le (by omega) (by omega)) h9
  | succ j ih =>
    intro q  hj
    have e11 := hO.1.trans en
    have cq : (nI q).toNatClampNeg = q := nI_clamp (by omega)
    have e57 := (hO.2.1 q (by rw [en, nv_nI (by omega)]; omega)).2.2.2.2.1
    refine r_run okX10_judgedAs 3 (cs := []) (σ' := (9, [some (.ref 52), some (.int v), some (.int (nI (cnt (fun w => decide (I 131 w = v)) q))), some (.int (nI q))], [.int (I 52 11), .int (nI q)], (SS b c), I, J, 0, 0)) rfl trivial ?_
    simp only [e11]
    show Rj _ _ _ _ _ _ (9, [some (.ref 52), some (.int v), some (.int (nI (cnt (fun w => decide (I 131 w = v)) q))), some (.int (nI q))], [.int (nI n), .int (nI q)], (SS b c), I, J, 0, 0)
    refine r_icmp okX10_judgedAs rfl (fun (h9 : (nI n) ≤ (nI q)) => ?_) (fun (h9 : ¬ (nI n) ≤ (nI q)) => ?_)
    · exact absurd h9 (nI_ge (by omega) (by omega))
    · refine r_run okX10_judgedAs 5 (cs := [vp_in (nI q) 200]) (σ' := (19, [some (.ref 52), some (.int v), some (.int (nI (cnt (fun w => decide (I 131 w = v)) q))), some (.int (nI q))], [.int v, .int (I 57 ((nI q).toNatClampNeg))], (SS b c), I, J, 0, 0)) rfl ⟨(vin (by omega) (by decide)), trivial⟩ ?_
      simp only [cq, e57]
      show Rj _ _ _ _ _ _ (19, [some (.ref 52), some (.int v), some (.int (nI (cnt (fun w => decide (I 131 w = v)) q))), some (.int (nI q))], [.int v, .int (I 131 q)], (SS b c), I, J, 0, 0)
      refine r_icmp okX10_judgedAs rfl (fun (h19 : ¬ (I 131 q) = v) => ?_) (fun h190 => ?_)
      · refine r_run okX10_judgedAs 2 (cs := []) (σ' := (4, [some (.ref 52), some (.int v), some (.int (nI (cnt (fun w => decide (I 131 w = v)) q))), some (.int ((nI q) + 1))], [], (SS b c), I, J, 0, 0)) rfl trivial ?_
        rw [nI_eq1]
        have h := ih (q + 1) (by omega)
        rw [show cnt (fun w => decide (I 131 w = v)) (q + 1) = cnt (fun w => decide (I 131 w = v)) q + (if decide (I 131 q = v) then 1 else 0) from rfl, decide_eq_false h19] at h
        exact h
      · have h19 : (I 131 q) = v := Classical.not_not.mp h190
        refine r_run okX10_judgedAs 3 (cs := []) (σ' := (4, [some (.ref 52), some (.int v), some (.int ((nI (cnt (fun w => decide (I 131 w = v)) q)) + 1)), some (.int ((nI q) + 1))], [], (SS b c), I, J, 0, 0)) rfl trivial ?_
        rw [nI_eq1, nI_eq1]
        have h := ih (q + 1) (by omega)
        rw [show cnt (fun w => decide (I 131 w = v)) (q + 1) = cnt (fun w => decide (I 131 w = v)) q + (if decide (I 131 q = v) then 1 else 0) from rfl, decide_eq_true h19] at h
        exact h
theorem o_judgedAs (γ : GE) {b c : Bool} {I : AI} {J : AJ} (hO : OWar I J) (hI : MWar I) (v : Int32) : Ct γ mX10_judgedAs 0 0 0 [.ref 52, .int v] (SS b c) I J (rI (nI (cnt (fun w => decide (I 131 w = v)) (nv (I 100 45)))) (SS b c) I J) := by
  refine ct_of okX10_judgedAs (L := [some (.ref 52), some (.int v), none, none]) (Nat.le_of_ble_eq_true rfl) rfl ?_
  refine r_run okX10_judgedAs 4 (cs := []) (σ' := (4, [some (.ref 52), some (.int v), some (.int 0), some (.int 0)], [], (SS b c), I, J, 0, 0)) rfl trivial ?_
  obtain ⟨n, hn, en⟩ := hI.1
  rw [en, nv_nI (by omega)]
  exact lp_jas γ hO hn en v n 0 (by omega)
theorem o_isDue (γ : GE) {b c : Bool} {I : AI} {J : AJ} (hO : OWar I J) (hI : MWar I) {w : Nat} (hw : w < nv (I 100 45)) (x : Int32) : Ct γ mX10_isDue 0 0 0 [.ref 52, .int (nI w), .int x] (SS b c) I J (rI (bi (decide (I 131 w = 0) && decide (I 129 w ≤ x))) (SS b c) I J) := by
  have hw2 : w < 200 := by have := (rg_nv hI.1 (by decide)).1; omega
  have cw : (nI w).toNatClampNeg = w := nI_clamp (by omega)
  obtain ⟨e53, e54, e55, e56, e57, l1, l2, l3⟩ := hO.2.1 w hw
  have e11 := hO.1
  have hn2 := (rg_nv hI.1 (by decide)).1
  refine ct_of okX10_isDue (L := [some (.ref 52), some (.int (nI w)), some (.int x)]) (Nat.le_of_ble_eq_true rfl) rfl ?_
  refine r_run okX10_isDue 1 (cs := []) (σ' := (1, [some (.ref 52), some (.int (nI w)), some (.int x)], [.int (nI w)], (SS b c), I, J, 0, 0)) rfl trivial ?_
  refine r_ifc okX10_isDue rfl (fun (h1 : (nI w) < (0 : Int32)) => ?_) (fun (h1 : ¬ (nI w) < (0 : Int32)) => ?_)
  · exact absurd h1 (nI_pos (by omega))
  · refine r_run okX10_isDue 3 (cs := []) (σ' := (9, [some (.ref 52), some (.int (nI w)), some (.int x)], [.int (I 52 11), .int (nI w)], (SS b c), I, J, 0, 0)) rfl trivial ?_
    simp only [e11]
    show Rj _ _ _ _ _ _ (9, [some (.ref 52), some (.int (nI w)), some (.int x)], [.int (I 100 45), .int (nI w)], (SS b c), I, J, 0, 0)
    refine r_icmp okX10_isDue rfl (fun (h9 : (I 100 45) ≤ (nI w)) => ?_) (fun (h9 : ¬ (I 100 45) ≤ (nI w)) => ?_)
    · exact absurd h9 (by rw [(rg_nv hI.1 (by decide)).2]; exact nI_ge hw (by omega))
    · refine r_run okX10_isDue 4 (cs := [vp_in (nI w) 200]) (σ' := (18, [some (.ref 52), some (.int (nI w)), some (.int x)], [.int (I 57 ((nI w).toNatClampNeg))], (SS b c), I, J, 0, 0)) rfl ⟨(vin hw2 (by decide)), trivial⟩ ?_
      simp only [cw, e57]
      show Rj _ _ _ _ _ _ (18, [some (.ref 52), some (.int (nI w)), some (.int x)], [.int (I 131 w)], (SS b c), I, J, 0, 0)
      refine r_ifc okX10_isDue rfl (fun (h18 : ¬ (I 131 w) = (0 : Int32)) => ?_) (fun h180 => ?_)
      · refine r_run okX10_isDue 1 (cs := []) (σ' := (36, [some (.ref 52), some (.int (nI w)), some (.int x)], [.int 0], (SS b c), I, J, 0, 0)) rfl trivial ?_
        refine r_iret okX10_isDue rfl rfl (by decide +kernel) (Nat.le_refl _) (Nat.le_refl _) ?_
        exact ⟨by rw [decide_eq_false h18]; rfl, rfl, rfl, rfl⟩
      · have h18 : (I 131 w) = (0 : Int32) := Classical.not_not.mp h180
        refine r_run okX10_isDue 5 (cs := [vp_in (nI w) 200]) (σ' := (28, [some (.ref 52), some (.int (nI w)), some (.int x)], [.int x, .int (I 55 ((nI w).toNatClampNeg))], (SS b c), I, J, 0, 0)) rfl ⟨(vin hw2 (by decide)), trivial⟩ ?_
        simp only [cw, e55]
        show Rj _ _ _ _ _ _ (28, [some (.ref 52), some (.int (nI w)), some (.int x)], [.int x, .int (I 129 w)], (SS b c), I, J, 0, 0)
        refine r_icmp okX10_isDue rfl (fun (h28 : x < (I 129 w)) => ?_) (fun (h28 : ¬ x < (I 129 w)) => ?_)
        · refine r_run okX10_isDue 1 (cs := []) (σ' := (36, [some (.ref 52), some (.int (nI w)), some (.int x)], [.int 0], (SS b c), I, J, 0, 0)) rfl trivial ?_
          refine r_iret okX10_isDue rfl rfl (by decide +kernel) (Nat.le_refl _) (Nat.le_refl _) ?_
          exact ⟨by rw [decide_eq_false (Int32.not_le.mpr h28), Bool.and_false]; rfl, rfl, rfl, rfl⟩
        · refine r_run okX10_isDue 2 (cs := []) (σ' := (36, [some (.ref 52), some (.int (nI w)), some (.int x)], [.int 1], (SS b c), I, J, 0, 0)) rfl trivial ?_
          refine r_iret okX10_isDue rfl rfl (by decide +kernel) (Nat.le_refl _) (Nat.le_refl _) ?_
          exact ⟨by rw [decide_eq_true h18, decide_eq_true (Int32.not_lt.mp h28)]; rfl, rfl, rfl, rfl⟩
def stW (I : AI) (w k : Nat) (z : Bool) : AI := upI (upI I 57 w (if z then 1 else 2)) 61 k (if z then (if I 133 k + 5 < 100 then I 133 k + 5 else 100) else (if 10 < I 133 k - 10 then I 133 k - 10 else 10))
theorem o_settleW (γ : GE) {b c : Bool} {I : AI} {J : AJ} (hO : OWar I J) (hI : MWar I) {w : Nat} (hw : w < nv (I 100 45)) {k : Nat} (hk : k < 8) (ek : I 127 w = nI k) (z : Bool) : Ct γ mX10_settle 0 0 0 [.ref 52, .int (nI w), .int (bi z)] (SS b c) I J (rV (SS b c) (stW I w k z) J) := by
  have hw2 : w < 200 := by have := (rg_nv hI.1 (by decide)).1; omega
  have cw : (nI w).toNatClampNeg = w := nI_clamp (by omega)
  obtain ⟨e53, e54, e55, e56, e57, l1, l2, l3⟩ := hO.2.1 w hw
  have ck : (nI k).toNatClampNeg = k := nI_clamp (by omega)
  have e53k := e53.trans ek
  have e61 := (hO.2.2 k hk).1
  refine ct_of okX10_settle (L := [some (.ref 52), some (.int (nI w)), some (.int (bi z)), none]) (Nat.le_of_ble_eq_true rfl) rfl ?_
  refine r_run okX10_settle 9 (cs := [vp_in (nI w) 200]) (σ' := (13, [some (.ref 52), some (.int (nI w)), some (.int (bi z)), some (.int (I 53 ((nI w).toNatClampNeg)))], [.int (bi z), .int (nI w), .ref 57], (SS b c), I, J, 0, 0)) rfl ⟨(vin hw2 (by decide)), trivial⟩ ?_
  simp only [cw, e53k]
  show Rj _ _ _ _ _ _ (13, [some (.ref 52), some (.int (nI w)), some (.int (bi z)), some (.int (nI k))], [.int (bi z), .int (nI w), .ref 57], (SS b c), I, J, 0, 0)
  refine r_ifc okX10_settle rfl (fun (h13 : (bi z) = (0 : Int32)) => ?_) (fun (h13 : ¬ (bi z) = (0 : Int32)) => ?_)
  · have hz := bi_0.mp h13
    refine r_run okX10_settle 6 (cs := [vp_in (nI w) 200]) (σ' := (28, [some (.ref 52), some (.int (nI w)), some (.int (bi z)), some (.int (nI k))], [.int (bi z), .int (nI k), .ref 61], (SS b c), (upI I 57 ((nI w).toNatClampNeg) 2), J, 0, 0)) rfl ⟨(vin hw2 (by decide)), trivial⟩ ?_
    simp only [cw]
    show Rj _ _ _ _ _ _ (28, [some (.ref 52), some (.int (nI w)), some (.int (bi z)), some (.int (nI k))], [.int (bi z), .int (nI k), .ref 61], (SS b c), (upI I 57 w 2), J, 0, 0)
    refine r_ifc okX10_settle rfl (fun (h28 : (bi z) = (0 : Int32)) => ?_) (fun (h28 : ¬ (bi z) = (0 : Int32)) => ?_)
    · refine r_run okX10_settle 7 (cs := [vp_in (nI k) 8]) (σ' := (58, [some (.ref 52), some (.int (nI w)), some (.int (bi z)), some (.int (nI k))], [.int ((I 61 ((nI k).toNatClampNeg)) - 10), .int 10, .int (nI k), .ref 61], (SS b c), (upI I 57 w 2), J, 0, 0)) rfl ⟨(vin hk (by decide)), trivial⟩ ?_
      simp only [ck, e61]
      show Rj _ _ _ _ _ _ (58, [some (.ref 52), some (.int (nI w)), some (.int (bi z)), some (.int (nI k))], [.int ((I 133 k) - 10), .int 10, .int (nI k), .ref 61], (SS b c), (upI I 57 w 2), J, 0, 0)
      refine r_mmax okX10_settle rfl rfl ⟨Nat.le_refl _, Nat.le_refl _⟩ (Nat.le_of_ble_eq_true rfl) ?_
      show Rj _ _ _ _ _ _ (61, [some (.ref 52), some (.int (nI w)), some (.int (bi z)), some (.int (nI k))], [.int (if 10 < ((I 133 k) - 10) then ((I 133 k) - 10) else 10), .int (nI k), .ref 61], (SS b c), (upI I 57 w 2), J, 0, 0)
      refine r_run okX10_settle 1 (cs := [vp_in (nI k) 8]) (σ' := (62, [some (.ref 52), some (.int (nI w)), some (.int (bi z)), some (.int (nI k))], [], (SS b c), (upI (upI I 57 w 2) 61 ((nI k).toNatClampNeg) (if 10 < ((I 133 k) - 10) then ((I 133 k) - 10) else 10)), J, 0, 0)) rfl ⟨(vin hk (by decide)), trivial⟩ ?_
      simp only [ck]
      show Rj _ _ _ _ _ _ (62, [some (.ref 52), some (.int (nI w)), some (.int (bi z)), some (.int (nI k))], [], (SS b c), (upI (upI I 57 w 2) 61 k (if 10 < ((I 133 k) - 10) then ((I 133 k) - 10) else 10)), J, 0, 0)
      refine r_vret okX10_settle rfl rfl (Nat.le_refl _) (Nat.le_refl _) ?_
      exact ⟨rfl, rfl, by unfold stW; rw [hz]; rfl, rfl⟩
    · exact absurd ((bi_n0.mp h28).symm.trans hz) (by decide)
  · have hz := bi_n0.mp h13
    refine r_run okX10_settle 7 (cs := [vp_in (nI w) 200]) (σ' := (28, [some (.ref 52), some (.int (nI w)), some (.int (bi z)), some (.int (nI k))], [.int (bi z), .int (nI k), .ref 61], (SS b c), (upI I 57 ((nI w).toNatClampNeg) 1), J, 0, 0)) rfl ⟨(vin hw2 (by decide)), trivial⟩ ?_
    simp only [cw]
    show Rj _ _ _ _ _ _ (28, [some (.ref 52), some (.int (nI w)), some (.int (bi z)), some (.int (nI k))], [.int (bi z), .int (nI k), .ref 61], (SS b c), (upI I 57 w 1), J, 0, 0)
    refine r_ifc okX10_settle rfl (fun (h28_1 : (bi z) = (0 : Int32)) => ?_) (fun (h28_1 : ¬ (bi z) = (0 : Int32)) => ?_)
    · exact absurd ((bi_0.mp h28_1).symm.trans hz) (by decide)
    · refine r_run okX10_settle 7 (cs := [vp_in (nI k) 8]) (σ' := (41, [some (.ref 52), some (.int (nI w)), some (.int (bi z)), some (.int (nI k))], [.int ((I 61 ((nI k).toNatClampNeg)) + 5), .int 100, .int (nI k), .ref 61], (SS b c), (upI I 57 w 1), J, 0, 0)) rfl ⟨(vin hk (by decide)), trivial⟩ ?_
      simp only [ck, e61]
      show Rj _ _ _ _ _ _ (41, [some (.ref 52), some (.int (nI w)), some (.int (bi z)), some (.int (nI k))], [.int ((I 133 k) + 5), .int 100, .int (nI k), .ref 61], (SS b c), (upI I 57 w 1), J, 0, 0)
      refine r_mmin okX10_settle rfl rfl ⟨Nat.le_refl _, Nat.le_refl _⟩ (Nat.le_of_ble_eq_true rfl) ?_
      show Rj _ _ _ _ _ _ (44, [some (.ref 52), some (.int (nI w)), some (.int (bi z)), some (.int (nI k))], [.int (if ((I 133 k) + 5) < 100 then ((I 133 k) + 5) else 100), .int (nI k), .ref 61], (SS b c), (upI I 57 w 1), J, 0, 0)
      refine r_run okX10_settle 2 (cs := [vp_in (nI k) 8]) (σ' := (62, [some (.ref 52), some (.int (nI w)), some (.int (bi z)), some (.int (nI k))], [], (SS b c), (upI (upI I 57 w 1) 61 ((nI k).toNatClampNeg) (if ((I 133 k) + 5) < 100 then ((I 133 k) + 5) else 100)), J, 0, 0)) rfl ⟨(vin hk (by decide)), trivial⟩ ?_
      simp only [ck]
      show Rj _ _ _ _ _ _ (62, [some (.ref 52), some (.int (nI w)), some (.int (bi z)), some (.int (nI k))], [], (SS b c), (upI (upI I 57 w 1) 61 k (if ((I 133 k) + 5) < 100 then ((I 133 k) + 5) else 100)), J, 0, 0)
      refine r_vret okX10_settle rfl rfl (Nat.le_refl _) (Nat.le_refl _) ?_
      exact ⟨rfl, rfl, by unfold stW; rw [hz]; rfl, rfl⟩
theorem o_safe0 (γ : GE) {b c : Bool} {I : AI} {J : AJ} (hO : OWar I J) (hI : MWar I) (hD : WDis I) (hL : OLd I) {x : Nat} (hx : x < 96) (t : Int32) (he : thr I (I 101 x) t = none) : Ct γ mX10_safeAt 1 0 0 [.ref 52, .int t, .int (nI x)] (SS b c) I J (fun rt S' I' J' => some (.int (safV I t x)) = rt ∧ (SS b c) = S' ∧ I = I' ∧ kJ [62] J J') := by
  have eb : bsI (thr I (I 101 x) t) = -1 := by rw [he]; rfl
  refine ct_of okX10_safeAt (L := [some (.ref 52), some (.int t), some (.int (nI x)), none, none]) (Nat.le_of_ble_eq_true rfl) rfl ?_
  refine r_run okX10_safeAt 4 (cs := []) (σ' := (6, [some (.ref 52), some (.int t), some (.int (nI x)), none, none], [.int (nI x), .ref 1, .ref 52], (SS b c), I, J, 0, 0)) rfl trivial ?_
  refine r_callV okX10_safeAt okX2_countyAt [.int (nI x)] [.ref 52] 1 rfl rfl rfl kkX2_countyAt rfl rfl (by decide) rfl rfl rfl (by decide) ⟨Nat.le_refl _, Nat.le_refl _⟩ (Nat.le_of_ble_eq_true rfl) (o_countyAt γ hL hx rfl) (fun v1 S1 I1 J1 hp => ?_)
  obtain ⟨rfl, rfl, rfl, rfl⟩ := hp
  show Rj _ _ _ _ _ _ (9, [some (.ref 52), some (.int t), some (.int (nI x)), none, none], [.int (I 101 x), .ref 52], (SS b c), I, J, 0, 0)
  refine r_run okX10_safeAt 1 (cs := []) (σ' := (10, [some (.ref 52), some (.int t), some (.int (nI x)), none, none], [.int t, .int (I 101 x), .ref 52], (SS b c), I, J, 0, 0)) rfl trivial ?_
  refine r_callV okX10_safeAt okX10_at [.int (I 101 x), .int t] [] 52 rfl rfl rfl kkX10_at rfl rfl (by decide) rfl rfl rfl (by decide) ⟨Nat.le_refl _, Nat.le_refl _⟩ (Nat.le_of_ble_eq_true rfl) (o_at γ hO hI hD (I 101 x) t) (fun v1 S1 I1 J1 hp => ?_)
  obtain ⟨rfl, rfl, rfl, rfl⟩ := hp
  show Rj _ _ _ _ _ _ (13, [some (.ref 52), some (.int t), some (.int (nI x)), none, none], [.int (bsI (thr I (I 101 x) t))], (SS b c), I, J, 0, 0)
  simp only [eb]
  show Rj _ _ _ _ _ _ (13, [some (.ref 52), some (.int t), some (.int (nI x)), none, none], [.int (-1)], (SS b c), I, J, 0, 0)
  refine r_run okX10_safeAt 3 (cs := []) (σ' := (16, [some (.ref 52), some (.int t), some (.int (nI x)), some (.int (-1)), none], [.int (-1), .int (-1)], (SS b c), I, J, 0, 0)) rfl trivial ?_
  refine r_icmp okX10_safeAt rfl (fun (h16 : ¬ ((-1) : Int32) = ((-1) : Int32)) => ?_) (fun h160 => ?_)
  · exact absurd h16 (by decide)
  · have h16 : ((-1) : Int32) = ((-1) : Int32) := Classical.not_not.mp h160
    refine r_run okX10_safeAt 1 (cs := []) (σ' := (20, [some (.ref 52), some (.int t), some (.int (nI x)), some (.int (-1)), none], [.int 0], (SS b c), I, J, 0, 0)) rfl trivial ?_
    refine r_iret okX10_safeAt rfl rfl rfl (Nat.le_refl _) (Nat.le_refl _) ?_
    exact ⟨by unfold safV; rw [he], rfl, rfl, kJ_r⟩
theorem o_safe1 (γ : GE) {b c : Bool} {I : AI} {J : AJ} (hO : OWar I J) (hI : MWar I) (hD : WDis I) (hL : OLd I) {x : Nat} (hx : x < 96) (t : Int32) {w : Nat} (he : thr I (I 101 x) t = some w) : Ct γ mX10_safeAt 1 0 0 [.ref 52, .int t, .int (nI x)] (SS b c) I J (fun rt S' I' J' => some (.int (safV I t x)) = rt ∧ (SS b c) = S' ∧ I = I' ∧ kJ [62] J J') := by
  have eb : bsI (thr I (I 101 x) t) = nI w := by rw [he]; rfl
  have hw := (thr_lt hI.1 he).1
  have hw2 : w < 200 := by have := (rg_nv hI.1 (by decide)).1; omega
  have cw : (nI w).toNatClampNeg = w := nI_clamp (by omega)
  obtain ⟨e53, e54, e55, e56, e57, l1, l2, l3⟩ := hO.2.1 w hw
  refine ct_of okX10_safeAt (L := [some (.ref 52), some (.int t), some (.int (nI x)), none, none]) (Nat.le_of_ble_eq_true rfl) rfl ?_
  refine r_run okX10_safeAt 4 (cs := []) (σ' := (6, [some (.ref 52), some (.int t), some (.int (nI x)), none, none], [.int (nI x), .ref 1, .ref 52], (SS b c), I, J, 0, 0)) rfl trivial ?_
  refine r_callV okX10_safeAt okX2_countyAt [.int (nI x)] [.ref 52] 1 rfl rfl rfl kkX2_countyAt rfl rfl (by decide) rfl rfl rfl (by decide) ⟨Nat.le_refl _, Nat.le_refl _⟩ (Nat.le_of_ble_eq_true rfl) (o_countyAt γ hL hx rfl) (fun v1 S1 I1 J1 hp => ?_)
  obtain ⟨rfl, rfl, rfl, rfl⟩ := hp
  show Rj _ _ _ _ _ _ (9, [some (.ref 52), some (.int t), some (.int (nI x)), none, none], [.int (I 101 x), .ref 52], (SS b c), I, J, 0, 0)
  refine r_run okX10_safeAt 1 (cs := []) (σ' := (10, [some (.ref 52), some (.int t), some (.int (nI x)), none, none], [.int t, .int (I 101 x), .ref 52], (SS b c), I, J, 0, 0)) rfl trivial ?_
  refine r_callV okX10_safeAt okX10_at [.int (I 101 x), .int t] [] 52 rfl rfl rfl kkX10_at rfl rfl (by decide) rfl rfl rfl (by decide) ⟨Nat.le_refl _, Nat.le_refl _⟩ (Nat.le_of_ble_eq_true rfl) (o_at γ hO hI hD (I 101 x) t) (fun v1 S1 I1 J1 hp => ?_)
  obtain ⟨rfl, rfl, rfl, rfl⟩ := hp
  show Rj _ _ _ _ _ _ (13, [some (.ref 52), some (.int t), some (.int (nI x)), none, none], [.int (bsI (thr I (I 101 x) t))], (SS b c), I, J, 0, 0)
  simp only [eb]
  show Rj _ _ _ _ _ _ (13, [some (.ref 52), some (.int t), some (.int (nI x)), none, none], [.int (nI w)], (SS b c), I, J, 0, 0)
  refine r_run okX10_safeAt 3 (cs := []) (σ' := (16, [some (.ref 52), some (.int t), some (.int (nI x)), some (.int (nI w)), none], [.int (-1), .int (nI w)], (SS b c), I, J, 0, 0)) rfl trivial ?_
  refine r_icmp okX10_safeAt rfl (fun (h16 : ¬ (nI w) = ((-1) : Int32)) => ?_) (fun h160 => ?_)
  · refine r_run okX10_safeAt 10 (cs := [vp_in (nI w) 200, vp_in (nI w) 200]) (σ' := (37, [some (.ref 52), some (.int t), some (.int (nI x)), some (.int (nI w)), none], [.long (J 59 ((nI w).toNatClampNeg)), .long (J 58 ((nI w).toNatClampNeg)), .ref 62], (SS b c), I, J, 0, 0)) rfl ⟨(vin hw2 (by decide)), (vin hw2 (by decide)), trivial⟩ ?_
    simp only [cw]
    show Rj _ _ _ _ _ _ (37, [some (.ref 52), some (.int t), some (.int (nI x)), some (.int (nI w)), none], [.long (J 59 w), .long (J 58 w), .ref 62], (SS b c), I, J, 0, 0)
    refine r_callV okX10_safeAt okX0_load [.long (J 58 w), .long (J 59 w)] [] 62 rfl rfl rfl kkX0_load rfl rfl (by decide) rfl rfl rfl (by decide) ⟨Nat.le_refl _, Nat.le_refl _⟩ (Nat.le_of_ble_eq_true rfl) (a_load γ rfl (f := fun y => hsN I w y 96) l1 l2 l3) (fun v1 S1 I1 J1 hp => ?_)
    obtain ⟨rfl, rfl, rfl, J1, rfl, k1, c1⟩ := hp
    show Rj _ _ _ _ _ _ (40, [some (.ref 52), some (.int t), some (.int (nI x)), some (.int (nI w)), none], [], (SS b c), I, J1, 0, 0)
    refine r_run okX10_safeAt 7 (cs := [vp_in (nI w) 200]) (σ' := (51, [some (.ref 52), some (.int t), some (.int (nI x)), some (.int (nI w)), none], [.int (nI x), .ref 62, .int (I 54 ((nI w).toNatClampNeg))], (SS b c), I, J1, 0, 0)) rfl ⟨(vin hw2 (by decide)), trivial⟩ ?_
    simp only [cw, e54]
    show Rj _ _ _ _ _ _ (51, [some (.ref 52), some (.int t), some (.int (nI x)), some (.int (nI w)), none], [.int (nI x), .ref 62, .int (I 128 w)], (SS b c), I, J1, 0, 0)
    refine r_callV okX10_safeAt okX0_has [.int (nI x)] [.int (I 128 w)] 62 rfl rfl rfl kkX0_has rfl rfl (by decide) rfl rfl rfl (by decide) ⟨Nat.le_refl _, Nat.le_refl _⟩ (Nat.le_of_ble_eq_true rfl) (a_has γ rfl c1 (x := x) hx rfl) (fun v1 S1 I1 J1 hp => ?_)
    obtain ⟨rfl, rfl, rfl, rfl⟩ := hp
    show Rj _ _ _ _ _ _ (54, [some (.ref 52), some (.int t), some (.int (nI x)), some (.int (nI w)), none], [.int (bi ((fun y => hsN I w y 96) x)), .int (I 128 w)], (SS b c), I, J1, 0, 0)
    refine r_ifc okX10_safeAt rfl (fun (h54 : (bi ((fun y => hsN I w y 96) x)) = (0 : Int32)) => ?_) (fun (h54 : ¬ (bi ((fun y => hsN I w y 96) x)) = (0 : Int32)) => ?_)
    · refine r_run okX10_safeAt 8 (cs := []) (σ' := (73, [some (.ref 52), some (.int t), some (.int (nI x)), some (.int (nI w)), some (.int ((I 128 w) + 5))], [.int (nI x), .ref 1, .int ((I 128 w) + 5), .int t], (SS b c), I, J1, 0, 0)) rfl trivial ?_
      refine r_callV okX10_safeAt okX2_shelterAt [.int (nI x)] [.int ((I 128 w) + 5), .int t] 1 rfl rfl rfl kkX2_shelterAt rfl rfl (by decide) rfl rfl rfl (by decide) ⟨Nat.le_refl _, Nat.le_refl _⟩ (Nat.le_of_ble_eq_true rfl) (o_shelterAt γ hL hx rfl) (fun v1 S1 I1 J1 hp => ?_)
      obtain ⟨rfl, rfl, rfl, rfl⟩ := hp
      show Rj _ _ _ _ _ _ (76, [some (.ref 52), some (.int t), some (.int (nI x)), some (.int (nI w)), some (.int ((I 128 w) + 5))], [.int (I 103 x), .int ((I 128 w) + 5), .int t], (SS b c), I, J1, 0, 0)
      refine r_run okX10_safeAt 1 (cs := []) (σ' := (77, [some (.ref 52), some (.int t), some (.int (nI x)), some (.int (nI w)), some (.int ((I 128 w) + 5))], [.int (((I 128 w) + 5) + (I 103 x)), .int t], (SS b c), I, J1, 0, 0)) rfl trivial ?_
      refine r_icmp okX10_safeAt rfl (fun (h77 : t < (((I 128 w) + 5) + (I 103 x))) => ?_) (fun (h77 : ¬ t < (((I 128 w) + 5) + (I 103 x))) => ?_)
      · refine r_run okX10_safeAt 1 (cs := []) (σ' := (102, [some (.ref 52), some (.int t), some (.int (nI x)), some (.int (nI w)), some (.int ((I 128 w) + 5))], [.int 0], (SS b c), I, J1, 0, 0)) rfl trivial ?_
        refine r_iret okX10_safeAt rfl rfl rfl (Nat.le_refl _) (Nat.le_refl _) ?_
        refine ⟨?_, rfl, rfl, k1⟩
        have hb : hsN I w x 96 = false := bi_0.mp h54
        unfold safV
        rw [he]
        simp only [hb]
        first | (rw [if_pos h77]) | (simp only [if_true, if_false, Bool.false_eq_true]; rw [if_pos h77])
      · refine r_run okX10_safeAt 3 (cs := []) (σ' := (85, [some (.ref 52), some (.int t), some (.int (nI x)), some (.int (nI w)), some (.int ((I 128 w) + 5))], [.int (nI x), .ref 1], (SS b c), I, J1, 0, 0)) rfl trivial ?_
        refine r_callV okX10_safeAt okX2_peopleAt [.int (nI x)] [] 1 rfl rfl rfl kkX2_peopleAt rfl rfl (by decide) rfl rfl rfl (by decide) ⟨Nat.le_refl _, Nat.le_refl _⟩ (Nat.le_of_ble_eq_true rfl) (o_peopleAt γ hL hx rfl) (fun v1 S1 I1 J1 hp => ?_)
        obtain ⟨rfl, rfl, rfl, rfl⟩ := hp
        show Rj _ _ _ _ _ _ (88, [some (.ref 52), some (.int t), some (.int (nI x)), some (.int (nI w)), some (.int ((I 128 w) + 5))], [.int (I 102 x)], (SS b c), I, J1, 0, 0)
        refine r_run okX10_safeAt 8 (cs := [vp_in (nI w) 200, ¬ (100 : Int32) = 0]) (σ' := (102, [some (.ref 52), some (.int t), some (.int (nI x)), some (.int (nI w)), some (.int ((I 128 w) + 5))], [.int (((I 102 x) * (I 56 ((nI w).toNatClampNeg))) / 100)], (SS b c), I, J1, 0, 0)) rfl ⟨(vin hw2 (by decide)), (by decide), trivial⟩ ?_
        simp only [cw, e56]
        show Rj _ _ _ _ _ _ (102, [some (.ref 52), some (.int t), some (.int (nI x)), some (.int (nI w)), some (.int ((I 128 w) + 5))], [.int (((I 102 x) * (I 130 w)) / 100)], (SS b c), I, J1, 0, 0)
        refine r_iret okX10_safeAt rfl rfl rfl (Nat.le_refl _) (Nat.le_refl _) ?_
        refine ⟨?_, rfl, rfl, k1⟩
        have hb : hsN I w x 96 = false := bi_0.mp h54
        unfold safV
        rw [he]
        simp only [hb]
        first | (rw [if_neg h77]) | (simp only [if_true, if_false, Bool.false_eq_true]; rw [if_neg h77])
    · refine r_run okX10_safeAt 9 (cs := []) (σ' := (73, [some (.ref 52), some (.int t), some (.int (nI x)), some (.int (nI w)), some (.int ((I 128 w) + 0))], [.int (nI x), .ref 1, .int ((I 128 w) + 0), .int t], (SS b c), I, J1, 0, 0)) rfl trivial ?_
      refine r_callV okX10_safeAt okX2_shelterAt [.int (nI x)] [.int ((I 128 w) + 0), .int t] 1 rfl rfl rfl kkX2_shelterAt rfl rfl (by decide) rfl rfl rfl (by decide) ⟨Nat.le_refl _, Nat.le_refl _⟩ (Nat.le_of_ble_eq_true rfl) (o_shelterAt γ hL hx rfl) (fun v1 S1 I1 J1 hp => ?_)
      obtain ⟨rfl, rfl, rfl, rfl⟩ := hp
      show Rj _ _ _ _ _ _ (76, [some (.ref 52), some (.int t), some (.int (nI x)), some (.int (nI w)), some (.int ((I 128 w) + 0))], [.int (I 103 x), .int ((I 128 w) + 0), .int t], (SS b c), I, J1, 0, 0)
      refine r_run okX10_safeAt 1 (cs := []) (σ' := (77, [some (.ref 52), some (.int t), some (.int (nI x)), some (.int (nI w)), some (.int ((I 128 w) + 0))], [.int (((I 128 w) + 0) + (I 103 x)), .int t], (SS b c), I, J1, 0, 0)) rfl trivial ?_
      refine r_icmp okX10_safeAt rfl (fun (h77_1 : t < (((I 128 w) + 0) + (I 103 x))) => ?_) (fun (h77_1 : ¬ t < (((I 128 w) + 0) + (I 103 x))) => ?_)
      · refine r_run okX10_safeAt 1 (cs := []) (σ' := (102, [some (.ref 52), some (.int t), some (.int (nI x)), some (.int (nI w)), some (.int ((I 128 w) + 0))], [.int 0], (SS b c), I, J1, 0, 0)) rfl trivial ?_
        refine r_iret okX10_safeAt rfl rfl rfl (Nat.le_refl _) (Nat.le_refl _) ?_
        refine ⟨?_, rfl, rfl, k1⟩
        have hb : hsN I w x 96 = true := bi_n0.mp h54
        unfold safV
        rw [he]
        simp only [hb]
        first | (rw [if_pos h77_1]) | (simp only [if_true, if_false, Bool.false_eq_true]; rw [if_pos h77_1])
      · refine r_run okX10_safeAt 3 (cs := []) (σ' := (85, [some (.ref 52), some (.int t), some (.int (nI x)), some (.int (nI w)), some (.int ((I 128 w) + 0))], [.int (nI x), .ref 1], (SS b c), I, J1, 0, 0)) rfl trivial ?_
        refine r_callV okX10_safeAt okX2_peopleAt [.int (nI x)] [] 1 rfl rfl rfl kkX2_peopleAt rfl rfl (by decide) rfl rfl rfl (by decide) ⟨Nat.le_refl _, Nat.le_refl _⟩ (Nat.le_of_ble_eq_true rfl) (o_peopleAt γ hL hx rfl) (fun v1 S1 I1 J1 hp => ?_)
        obtain ⟨rfl, rfl, rfl, rfl⟩ := hp
        show Rj _ _ _ _ _ _ (88, [some (.ref 52), some (.int t), some (.int (nI x)), some (.int (nI w)), some (.int ((I 128 w) + 0))], [.int (I 102 x)], (SS b c), I, J1, 0, 0)
        refine r_run okX10_safeAt 8 (cs := [vp_in (nI w) 200, ¬ (100 : Int32) = 0]) (σ' := (102, [some (.ref 52), some (.int t), some (.int (nI x)), some (.int (nI w)), some (.int ((I 128 w) + 0))], [.int (((I 102 x) * (I 56 ((nI w).toNatClampNeg))) / 100)], (SS b c), I, J1, 0, 0)) rfl ⟨(vin hw2 (by decide)), (by decide), trivial⟩ ?_
        simp only [cw, e56]
        show Rj _ _ _ _ _ _ (102, [some (.ref 52), some (.int t), some (.int (nI x)), some (.int (nI w)), some (.int ((I 128 w) + 0))], [.int (((I 102 x) * (I 130 w)) / 100)], (SS b c), I, J1, 0, 0)
        refine r_iret okX10_safeAt rfl rfl rfl (Nat.le_refl _) (Nat.le_refl _) ?_
        refine ⟨?_, rfl, rfl, k1⟩
        have hb : hsN I w x 96 = true := bi_n0.mp h54
        unfold safV
        rw [he]
        simp only [hb]
        first | (rw [if_neg h77_1]) | (simp only [if_true, if_false, Bool.false_eq_true]; rw [if_neg h77_1])
  · have h16 : (nI w) = ((-1) : Int32) := Classical.not_not.mp h160
    exact absurd h16 (nI_m1 (by omega))
theorem o_safeAt (γ : GE) {b c : Bool} {I : AI} {J : AJ} (hO : OWar I J) (hI : MWar I) (hD : WDis I) (hL : OLd I) {x : Nat} (hx : x < 96) (t : Int32) {X : Int32} (eX : X = nI x) : Ct γ mX10_safeAt 1 0 0 [.ref 52, .int t, .int X] (SS b c) I J (fun rt S' I' J' => some (.int (safV I t x)) = rt ∧ (SS b c) = S' ∧ I = I' ∧ kJ [62] J J') := by
  subst eX
  cases he : thr I (I 101 x) t with
  | none => exact o_safe0 γ hO hI hD hL hx t he
  | some w => exact o_safe1 γ hO hI hD hL hx t he
