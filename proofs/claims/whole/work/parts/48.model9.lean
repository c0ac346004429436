/-! ===== the reference: findAfter, count, quarrel ===== -/
theorem row_hi {I : AI} {t : Nat} {f : Nat → Bool} {z : Nat} (h : 96 * t + 96 ≤ z) : row I t f 96 116 z = I 116 z := by
  simp only [row, if_true]
  rw [if_neg (by omega)]
theorem row_self {I : AI} {t : Nat} {f : Nat → Bool} (h : ∀ x, x < 96 → I 116 (96 * t + x) = bi (f x)) : row I t f 96 = I := by
  funext a b
  simp only [row]
  split
  · rename_i e; subst e
    split
    · rename_i q
      rw [← h (b - 96 * t) (by omega), show 96 * t + (b - 96 * t) = b by omega]
    · rfl
  · rfl
def goTo (m : Int32) (f : Nat → Bool) (n x : Nat) : Bool := (List.range n).any fun b => mvOn m b && mvOK x b && f (mvT x b)
def aftB (I : AI) (k : Int32) (l : Nat) : Nat → Nat → Bool
  | 0, x => mayB I k l x
  | j + 1, x => mayB I k (l - (j + 1)) x && goTo (I 100 6) (aftB I k l j) 9 x
def aftR (I : AI) (k : Int32) (t x : Nat) : Bool := if lastV I k (nv (I 100 13)) ≤ nI t then mayB I k t x else if nI t < I 100 7 then mayB I k t x else aftB I k (nv (lastV I k (nv (I 100 13)))) (nv (lastV I k (nv (I 100 13))) - t) x
theorem nI_ltp {n : Nat} (h : n < 2 ^ 31) : nI n - 1 < nI n := by
  cases n with
  | zero => decide
  | succ m => rw [nI_pred]; exact nI_lt (by omega) h
theorem add_m1 (x : Int32) : x + (-1) = x - 1 := (Int32.sub_eq_add_neg x 1).symm
theorem lp_Ab (γ : GE) {b c : Bool} {I : AI} {J : AJ} {Post : PT} {I1 : AI} (t l m x : Nat) (k : Int32) (F fa : Nat → Bool) (hm : m < 719) (hx : x < 96) (h6 : I1 100 6 = I 100 6) (hfa : ∀ y, y < 96 → I1 116 (96 * (m + 1) + y) = bi (fa y)) (K : Rj γ mX12_findAfter 4 0 0 Post (122, [some (.ref 100), some (.int (nI t)), some (.int k), some (.int (nI l)), some (.int (nI m)), some (.int (nI x)), some (.int (bi (goTo (I 100 6) fa 9 x))), none], [], (SS b c), (row I1 m F 96), J, 0, 0)) : ∀ (j q : Nat), q + j = 9 → Rj γ mX12_findAfter 4 0 0 (Post) (57, [some (.ref 100), some (.int (nI t)), some (.int k), some (.int (nI l)), some (.int (nI m)), some (.int (nI x)), some (.int (bi (goTo (I 100 6) fa q x))), some (.int (nI q))], [], (SS b c), (row I1 m F 96), J, 0, 0) := by
  intro j
  induction j with
  | zero =>
    intro q  hj
    refine r_run okX12_findAfter 2 (cs := []) (σ' := (61, [some (.ref 100), some (.int (nI t)), some (.int k), some (.int (nI l)), some (.int (nI m)), some (.int (nI x)), some (.int (bi (goTo (I 100 6) fa q x))), some (.int (nI q))], [.int 9, .int (nI q)], (SS b c), (row I1 m F 96), J, 0, 0)) rfl trivial ?_
    refine r_icmp okX12_findAfter rfl (fun (h61 : (9 : Int32) ≤ (nI q)) => ?_) (fun (h61 : ¬ (9 : Int32) ≤ (nI q)) => ?_)
    · rw [show q = 9 by omega]
      refine r_weak (L' := [some (.ref 100), some (.int (nI t)), some (.int k), some (.int (nI l)), some (.int (nI m)), some (.int (nI x)), some (.int (bi (goTo (I 100 6) fa 9 x))), none]) ⟨rfl, rfl, rfl, rfl, rfl, rfl, rfl, trivial⟩ K
    · exact absurd (nI_le (a := 9) (by omega) (by omega)) h61
  | succ j ih =>
    intro q  hj
    have rn6 : (row I1 m F 96) 100 6 = I 100 6 := by rw [row_ne (by decide)]; exact h6
    refine r_run okX12_findAfter 2 (cs := []) (σ' := (61, [some (.ref 100), some (.int (nI t)), some (.int k), some (.int (nI l)), some (.int (nI m)), some (.int (nI x)), some (.int (bi (goTo (I 100 6) fa q x))), some (.int (nI q))], [.int 9, .int (nI q)], (SS b c), (row I1 m F 96), J, 0, 0)) rfl trivial ?_
    refine r_icmp okX12_findAfter rfl (fun (h61 : (9 : Int32) ≤ (nI q)) => ?_) (fun (h61 : ¬ (9 : Int32) ≤ (nI q)) => ?_)
    · exact absurd h61 (nI_ge (b := 9) (by omega) (by decide))
    · refine r_run okX12_findAfter 7 (cs := []) (σ' := (74, [some (.ref 100), some (.int (nI t)), some (.int k), some (.int (nI l)), some (.int (nI m)), some (.int (nI x)), some (.int (bi (goTo (I 100 6) fa q x))), some (.int (nI q))], [.int 1, .int ((((row I1 m F 96) 100 6) >>> ((nI q) &&& 31)) &&& 1)], (SS b c), (row I1 m F 96), J, 0, 0)) rfl trivial ?_
      simp only [rn6]
      show Rj _ _ _ _ _ _ (74, [some (.ref 100), some (.int (nI t)), some (.int k), some (.int (nI l)), some (.int (nI m)), some (.int (nI x)), some (.int (bi (goTo (I 100 6) fa q x))), some (.int (nI q))], [.int 1, .int (((I 100 6) >>> ((nI q) &&& 31)) &&& 1)], (SS b c), (row I1 m F 96), J, 0, 0)
      refine r_icmp okX12_findAfter rfl (fun (h74 : ¬ (((I 100 6) >>> ((nI q) &&& 31)) &&& 1) = (1 : Int32)) => ?_) (fun h740 => ?_)
      · have hon : mvOn (I 100 6) q = false := by simp [mvOn, h74]
        refine r_run okX12_findAfter 2 (cs := []) (σ' := (57, [some (.ref 100), some (.int (nI t)), some (.int k), some (.int (nI l)), some (.int (nI m)), some (.int (nI x)), some (.int (bi (goTo (I 100 6) fa q x))), some (.int (nI q + 1))], [], (SS b c), (row I1 m F 96), J, 0, 0)) rfl trivial ?_
        rw [← nI_succ]
        have e : bi (goTo (I 100 6) fa (q + 1) x) = (bi (goTo (I 100 6) fa q x)) := by simp only [goTo, any_s]; simp [*, bi_t]
        rw [← e]
        exact ih (q + 1) (by omega)
      · have h74 : (((I 100 6) >>> ((nI q) &&& 31)) &&& 1) = (1 : Int32) := Classical.not_not.mp h740
        have hon : mvOn (I 100 6) q = true := by simp [mvOn, h74]
        refine r_run okX12_findAfter 3 (cs := []) (σ' := (82, [some (.ref 100), some (.int (nI t)), some (.int k), some (.int (nI l)), some (.int (nI m)), some (.int (nI x)), some (.int (bi (goTo (I 100 6) fa q x))), some (.int (nI q))], [.int (nI q), .int (nI x), .ref 100], (SS b c), (row I1 m F 96), J, 0, 0)) rfl trivial ?_
        refine r_callV okX12_findAfter okX12_moved [.int (nI x), .int (nI q)] [] 100 rfl rfl rfl kkX12_moved rfl rfl (by decide) rfl rfl rfl (by decide) ⟨Nat.le_refl _, Nat.le_refl _⟩ (Nat.le_of_ble_eq_true rfl) (c_moved0 γ x q hx (by omega)) (fun v1 S1 I1 J1 hp => ?_)
        obtain ⟨rfl, rfl, rfl, rfl⟩ := hp
        show Rj _ _ _ _ _ _ (85, [some (.ref 100), some (.int (nI t)), some (.int k), some (.int (nI l)), some (.int (nI m)), some (.int (nI x)), some (.int (bi (goTo (I 100 6) fa q x))), some (.int (nI q))], [.int (movI x q)], (SS b c), (row I1 m F 96), J, 0, 0)
        refine r_run okX12_findAfter 1 (cs := []) (σ' := (86, [some (.ref 100), some (.int (nI t)), some (.int k), some (.int (nI l)), some (.int (nI m)), some (.int (nI x)), some (.int (bi (goTo (I 100 6) fa q x))), some (.int (nI q))], [.int (-1), .int (movI x q)], (SS b c), (row I1 m F 96), J, 0, 0)) rfl trivial ?_
        refine r_icmp okX12_findAfter rfl (fun (h86 : (movI x q) = ((-1) : Int32)) => ?_) (fun (h86 : ¬ (movI x q) = ((-1) : Int32)) => ?_)
        · have hok : mvOK x q = false := by
            cases e : mvOK x q with
            | false => rfl
            | true =>
              unfold movI at h86
              rw [e, if_pos rfl] at h86
              exact absurd h86 (nI_m1 (by have := ((mv_dec x hx q (by omega)).2 e).2; omega))
          refine r_run okX12_findAfter 2 (cs := []) (σ' := (57, [some (.ref 100), some (.int (nI t)), some (.int k), some (.int (nI l)), some (.int (nI m)), some (.int (nI x)), some (.int (bi (goTo (I 100 6) fa q x))), some (.int (nI q + 1))], [], (SS b c), (row I1 m F 96), J, 0, 0)) rfl trivial ?_
          rw [← nI_succ]
          have e : bi (goTo (I 100 6) fa (q + 1) x) = (bi (goTo (I 100 6) fa q x)) := by simp only [goTo, any_s]; simp [*, bi_t]
          rw [← e]
          exact ih (q + 1) (by omega)
        · have hok : mvOK x q = true := by
            cases e : mvOK x q with
            | true => rfl
            | false => exact absurd (by unfold movI; rw [e]; rfl) h86
          have ez : movI x q = nI (mvT x q) := by unfold movI; rw [hok]; rfl
          have hz : mvT x q < 96 := ((mv_dec x hx q (by omega)).2 hok).2
          have e1 : (96 : Int32) * (nI m + 1) + movI x q = nI (96 * (m + 1) + mvT x q) := by rw [ez, ← nI_succ]; exact mul_add_nI 96 (m + 1) _
          have cz : ((96 : Int32) * (nI m + 1) + movI x q).toNatClampNeg = 96 * (m + 1) + mvT x q := by rw [e1]; exact nI_clamp (by omega)
          have vz : vp_in ((96 : Int32) * (nI m + 1) + movI x q) 69120 := by rw [e1]; exact vin (by omega) (by decide)
          have rb : (row I1 m F 96) 116 (96 * (m + 1) + mvT x q) = bi (fa (mvT x q)) := by rw [row_hi (by omega)]; exact hfa _ hz
          refine r_run okX12_findAfter 10 (cs := []) (σ' := (105, [some (.ref 100), some (.int (nI t)), some (.int k), some (.int (nI l)), some (.int (nI m)), some (.int (nI x)), some (.int (bi (goTo (I 100 6) fa q x))), some (.int (nI q))], [.int (nI q), .int (nI x), .ref 100, .int (96 * ((nI m) + 1)), .ref 116], (SS b c), (row I1 m F 96), J, 0, 0)) rfl trivial ?_
          refine r_callV okX12_findAfter okX12_moved [.int (nI x), .int (nI q)] [.int (96 * ((nI m) + 1)), .ref 116] 100 rfl rfl rfl kkX12_moved rfl rfl (by decide) rfl rfl rfl (by decide) ⟨Nat.le_refl _, Nat.le_refl _⟩ (Nat.le_of_ble_eq_true rfl) (c_moved0 γ x q hx (by omega)) (fun v1 S1 I1 J1 hp => ?_)
          obtain ⟨rfl, rfl, rfl, rfl⟩ := hp
          show Rj _ _ _ _ _ _ (108, [some (.ref 100), some (.int (nI t)), some (.int k), some (.int (nI l)), some (.int (nI m)), some (.int (nI x)), some (.int (bi (goTo (I 100 6) fa q x))), some (.int (nI q))], [.int (movI x q), .int (96 * ((nI m) + 1)), .ref 116], (SS b c), (row I1 m F 96), J, 0, 0)
          refine r_run okX12_findAfter 2 (cs := [vp_in ((96 * ((nI m) + 1)) + (movI x q)) 69120]) (σ' := (110, [some (.ref 100), some (.int (nI t)), some (.int k), some (.int (nI l)), some (.int (nI m)), some (.int (nI x)), some (.int (bi (goTo (I 100 6) fa q x))), some (.int (nI q))], [.int ((row I1 m F 96) 116 (((96 * ((nI m) + 1)) + (movI x q)).toNatClampNeg))], (SS b c), (row I1 m F 96), J, 0, 0)) rfl ⟨vz, trivial⟩ ?_
          simp only [cz, rb]
          show Rj _ _ _ _ _ _ (110, [some (.ref 100), some (.int (nI t)), some (.int k), some (.int (nI l)), some (.int (nI m)), some (.int (nI x)), some (.int (bi (goTo (I 100 6) fa q x))), some (.int (nI q))], [.int (bi (fa (mvT x q)))], (SS b c), (row I1 m F 96), J, 0, 0)
          refine r_ifc okX12_findAfter rfl (fun (h110 : (bi (fa (mvT x q))) = (0 : Int32)) => ?_) (fun (h110 : ¬ (bi (fa (mvT x q))) = (0 : Int32)) => ?_)
          · have hfv := bi_0.mp h110
            refine r_run okX12_findAfter 2 (cs := []) (σ' := (57, [some (.ref 100), some (.int (nI t)), some (.int k), some (.int (nI l)), some (.int (nI m)), some (.int (nI x)), some (.int (bi (goTo (I 100 6) fa q x))), some (.int (nI q + 1))], [], (SS b c), (row I1 m F 96), J, 0, 0)) rfl trivial ?_
            rw [← nI_succ]
            have e : bi (goTo (I 100 6) fa (q + 1) x) = (bi (goTo (I 100 6) fa q x)) := by simp only [goTo, any_s]; simp [*, bi_t]
            rw [← e]
            exact ih (q + 1) (by omega)
          · have hfv := bi_n0.mp h110
            refine r_run okX12_findAfter 4 (cs := []) (σ' := (57, [some (.ref 100), some (.int (nI t)), some (.int k), some (.int (nI l)), some (.int (nI m)), some (.int (nI x)), some (.int 1), some (.int (nI q + 1))], [], (SS b c), (row I1 m F 96), J, 0, 0)) rfl trivial ?_
            rw [← nI_succ]
            have e : bi (goTo (I 100 6) fa (q + 1) x) = 1 := by simp only [goTo, any_s]; simp [*, bi_t]
            rw [← e]
            exact ih (q + 1) (by omega)
theorem lp_Ax (γ : GE) {b c : Bool} {I : AI} {J : AJ} {Post : PT} {I1 : AI} (t l m : Nat) (k : Int32) (f fa : Nat → Bool) (hm : m < 719) (h6 : I1 100 6 = I 100 6) (hfa : ∀ y, y < 96 → I1 116 (96 * (m + 1) + y) = bi (fa y)) (K : Rj γ mX12_findAfter 4 0 0 Post (147, [some (.ref 100), some (.int (nI t)), some (.int k), some (.int (nI l)), some (.int (nI m)), none, none, none], [], (SS b c), (row I1 m (fun x => f x && goTo (I 100 6) fa 9 x) 96), J, 0, 0)) : ∀ (j x : Nat), x + j = 96 → Rj γ mX12_findAfter 4 0 0 (Post) (44, [some (.ref 100), some (.int (nI t)), some (.int k), some (.int (nI l)), some (.int (nI m)), some (.int (nI x)), none, none], [], (SS b c), (row I1 m (cutF f (goTo (I 100 6) fa 9) x) 96), J, 0, 0) := by
  intro j
  induction j with
  | zero =>
    intro x  hj
    refine r_run okX12_findAfter 2 (cs := []) (σ' := (48, [some (.ref 100), some (.int (nI t)), some (.int k), some (.int (nI l)), some (.int (nI m)), some (.int (nI x)), none, none], [.int 96, .int (nI x)], (SS b c), (row I1 m (cutF f (goTo (I 100 6) fa 9) x) 96), J, 0, 0)) rfl trivial ?_
    refine r_icmp okX12_findAfter rfl (fun (h48 : (96 : Int32) ≤ (nI x)) => ?_) (fun (h48 : ¬ (96 : Int32) ≤ (nI x)) => ?_)
    · rw [show x = 96 by omega]
      refine r_weak (L' := [some (.ref 100), some (.int (nI t)), some (.int k), some (.int (nI l)), some (.int (nI m)), none, none, none]) ⟨rfl, rfl, rfl, rfl, rfl, trivial⟩ ?_
      rw [row_congr (g := fun x => f x && goTo (I 100 6) fa 9 x) (fun y hy => by simp only [cutF]; rw [if_pos hy])]
      exact K
    · exact absurd (nI_le (a := 96) (by omega) (by omega)) h48
  | succ j ih =>
    intro x  hj
    have cq : ((96 : Int32) * nI m + nI x).toNatClampNeg = 96 * m + x := mul_ix (a := 96) (by omega)
    refine r_run okX12_findAfter 2 (cs := []) (σ' := (48, [some (.ref 100), some (.int (nI t)), some (.int k), some (.int (nI l)), some (.int (nI m)), some (.int (nI x)), none, none], [.int 96, .int (nI x)], (SS b c), (row I1 m (cutF f (goTo (I 100 6) fa 9) x) 96), J, 0, 0)) rfl trivial ?_
    refine r_icmp okX12_findAfter rfl (fun (h48 : (96 : Int32) ≤ (nI x)) => ?_) (fun (h48 : ¬ (96 : Int32) ≤ (nI x)) => ?_)
    · exact absurd h48 (nI_ge (b := 96) (by omega) (by decide))
    · refine r_run okX12_findAfter 4 (cs := []) (σ' := (57, [some (.ref 100), some (.int (nI t)), some (.int k), some (.int (nI l)), some (.int (nI m)), some (.int (nI x)), some (.int 0), some (.int 0)], [], (SS b c), (row I1 m (cutF f (goTo (I 100 6) fa 9) x) 96), J, 0, 0)) rfl trivial ?_
      have h := lp_Ab γ (b := b) (c := c) (I := I) (J := J) (Post := Post) (I1 := I1) t l m x k (cutF f (goTo (I 100 6) fa 9) x) fa hm (by omega) h6 hfa ?_ 9 0 rfl
      · rw [show goTo (I 100 6) fa 0 x = false from rfl, nI_0] at h
        exact h
      · refine r_run okX12_findAfter 1 (cs := []) (σ' := (124, [some (.ref 100), some (.int (nI t)), some (.int k), some (.int (nI l)), some (.int (nI m)), some (.int (nI x)), some (.int (bi (goTo (I 100 6) fa 9 x))), none], [.int (bi (goTo (I 100 6) fa 9 x))], (SS b c), (row I1 m (cutF f (goTo (I 100 6) fa 9) x) 96), J, 0, 0)) rfl trivial ?_
        refine r_ifc okX12_findAfter rfl (fun (h124 : ¬ (bi (goTo (I 100 6) fa 9 x)) = (0 : Int32)) => ?_) (fun h1240 => ?_)
        · have hs := bi_n0.mp h124
          refine r_run okX12_findAfter 2 (cs := []) (σ' := (44, [some (.ref 100), some (.int (nI t)), some (.int k), some (.int (nI l)), some (.int (nI m)), some (.int (nI x + 1)), some (.int (bi (goTo (I 100 6) fa 9 x))), none], [], (SS b c), (row I1 m (cutF f (goTo (I 100 6) fa 9) x) 96), J, 0, 0)) rfl trivial ?_
          rw [← nI_succ]
          refine r_weak (L' := [some (.ref 100), some (.int (nI t)), some (.int k), some (.int (nI l)), some (.int (nI m)), some (.int (nI (x + 1))), none, none]) ⟨rfl, rfl, rfl, rfl, rfl, rfl, trivial⟩ ?_
          rw [row_congr (g := cutF f (goTo (I 100 6) fa 9) (x + 1)) (fun y hy => by by_cases e : y = x; (· subst e; rw [cutF_q, cutF_o, hs]; simp); (· rw [← cutF_s e]))]
          exact ih (x + 1) (by omega)
        · have h124 : (bi (goTo (I 100 6) fa 9 x)) = (0 : Int32) := Classical.not_not.mp h1240
          have hs := bi_0.mp h124
          refine r_run okX12_findAfter 11 (cs := [vp_in ((96 * (nI m)) + (nI x)) 69120, bz 0]) (σ' := (44, [some (.ref 100), some (.int (nI t)), some (.int k), some (.int (nI l)), some (.int (nI m)), some (.int (nI x + 1)), some (.int (bi (goTo (I 100 6) fa 9 x))), none], [], (SS b c), (upI (row I1 m (cutF f (goTo (I 100 6) fa 9) x) 96) 116 (((96 * (nI m)) + (nI x)).toNatClampNeg) 0), J, 0, 0)) rfl ⟨(by rw [show (96 : Int32) * nI m + nI x = nI (96 * m + x) from mul_add_nI 96 m x]; exact vin (by omega) (by decide)), (Or.inl rfl), trivial⟩ ?_
          simp only [cq]
          show Rj _ _ _ _ _ _ (44, [some (.ref 100), some (.int (nI t)), some (.int k), some (.int (nI l)), some (.int (nI m)), some (.int (nI x + 1)), some (.int (bi (goTo (I 100 6) fa 9 x))), none], [], (SS b c), (upI (row I1 m (cutF f (goTo (I 100 6) fa 9) x) 96) 116 (96 * m + x) 0), J, 0, 0)
          rw [← nI_succ]
          refine r_weak (L' := [some (.ref 100), some (.int (nI t)), some (.int k), some (.int (nI l)), some (.int (nI m)), some (.int (nI (x + 1))), none, none]) ⟨rfl, rfl, rfl, rfl, rfl, rfl, trivial⟩ ?_
          rw [show (0 : Int32) = bi false from rfl, row_up (by omega)]
          rw [row_congr (g := cutF f (goTo (I 100 6) fa 9) (x + 1)) (fun y hy => by by_cases e : y = x; (· subst e; rw [cutF_q, hs]; simp [updB]); (· rw [← cutF_s e]; simp [updB, e]))]
          exact ih (x + 1) (by omega)
theorem lp_Am (γ : GE) {b c : Bool} {I : AI} {J : AJ} (t l : Nat) (k : Int32) (hl : l < 720) : ∀ (j : Nat) (I1 : AI), t + j ≤ l → ((∀ a, a ≠ 116 → I1 a = I a) ∧ (∀ x, x < 96 → I1 116 (96 * (t + j) + x) = bi (aftB I k l (l - (t + j)) x)) ∧ ∀ r, r < t + j → ∀ x, x < 96 → I1 116 (96 * r + x) = bi (mayB I k r x)) → Rj γ mX12_findAfter 4 0 0 (fun r S' I' J' => none = r ∧ (SS b c) = S' ∧ J = J' ∧ (∀ a, a ≠ 116 → I' a = I a) ∧ ∀ x, x < 96 → I' 116 (96 * t + x) = bi (aftB I k l (l - t) x)) (35, [some (.ref 100), some (.int (nI t)), some (.int k), some (.int (nI l)), some (.int (nI (t + j) - 1)), none, none, none], [], (SS b c), I1, J, 0, 0) := by
  intro j
  induction j with
  | zero =>
    intro I1 hj hi
    refine r_run okX12_findAfter 2 (cs := []) (σ' := (38, [some (.ref 100), some (.int (nI t)), some (.int k), some (.int (nI l)), some (.int (nI (t + 0) - 1)), none, none, none], [.int (nI t), .int (nI (t + 0) - 1)], (SS b c), I1, J, 0, 0)) rfl trivial ?_
    refine r_icmp okX12_findAfter rfl (fun (h38 : (nI (t + 0) - 1) < (nI t)) => ?_) (fun (h38 : ¬ (nI (t + 0) - 1) < (nI t)) => ?_)
    · refine r_vret okX12_findAfter rfl rfl (Nat.le_refl _) (Nat.le_refl _) ?_
      exact ⟨rfl, rfl, rfl, hi.1, hi.2.1⟩
    · exact absurd (nI_ltp (by omega)) h38
  | succ j ih =>
    intro I1 hj hi
    rw [show nI (t + (j + 1)) - 1 = nI (t + j) from nI_pred (t + j)]
    refine r_run okX12_findAfter 2 (cs := []) (σ' := (38, [some (.ref 100), some (.int (nI t)), some (.int k), some (.int (nI l)), some (.int (nI (t + j))), none, none, none], [.int (nI t), .int (nI (t + j))], (SS b c), I1, J, 0, 0)) rfl trivial ?_
    refine r_icmp okX12_findAfter rfl (fun (h38 : (nI (t + j)) < (nI t)) => ?_) (fun (h38 : ¬ (nI (t + j)) < (nI t)) => ?_)
    · exact absurd h38 (nI_nlt (by omega) (by omega))
    · refine r_run okX12_findAfter 2 (cs := []) (σ' := (44, [some (.ref 100), some (.int (nI t)), some (.int k), some (.int (nI l)), some (.int (nI (t + j))), some (.int 0), none, none], [], (SS b c), I1, J, 0, 0)) rfl trivial ?_
      have h := lp_Ax γ (b := b) (c := c) (I := I) (J := J) (I1 := I1) (Post := (fun r S' I' J' => none = r ∧ (SS b c) = S' ∧ J = J' ∧ (∀ a, a ≠ 116 → I' a = I a) ∧ ∀ x, x < 96 → I' 116 (96 * t + x) = bi (aftB I k l (l - t) x))) t l (t + j) k (fun x => mayB I k (t + j) x) (aftB I k l (l - (t + (j + 1)))) (by omega) (by rw [hi.1 100 (by decide)]) hi.2.1 ?_ 96 0 rfl
      · rw [row_congr (g := fun x => mayB I k (t + j) x) (fun y hy => by simp [cutF]), row_self (fun x hx => hi.2.2 (t + j) (by omega) x hx), nI_0] at h
        exact h
      · refine r_run okX12_findAfter 2 (cs := []) (σ' := (35, [some (.ref 100), some (.int (nI t)), some (.int k), some (.int (nI l)), some (.int (nI (t + j) + (-1))), none, none, none], [], (SS b c), (row I1 (t + j) (fun x => mayB I k (t + j) x && goTo (I 100 6) (aftB I k l (l - (t + (j + 1)))) 9 x) 96), J, 0, 0)) rfl trivial ?_
        rw [add_m1]
        refine ih _ (by omega) ⟨fun a h => by rw [row_ne h]; exact hi.1 a h, fun x hx => ?_, fun r hr x hx => ?_⟩
        · rw [row_in hx, show l - (t + j) = l - (t + (j + 1)) + 1 by omega, aftB, show l - (l - (t + (j + 1)) + 1) = t + j by omega]
        · rw [row_lo (by omega)]
          exact hi.2.2 r (by omega) x hx
theorem last_nat {I : AI} {k : Int32} (hT : MTel I) : ∀ n, n ≤ nv (I 100 13) → lastV I k n = -1 ∨ ∃ l, l < 720 ∧ lastV I k n = nI l
  | 0, _ => Or.inl rfl
  | n + 1, h => by
    rw [lastV]
    split
    · obtain ⟨-, -, ⟨l, hl, el⟩, -⟩ := hT.2 n (by omega)
      exact Or.inr ⟨l, hl, el⟩
    · exact last_nat hT n (by omega)
theorem m1_le {n : Nat} (h : n < 2 ^ 31) : (-1 : Int32) ≤ nI n := by
  rw [Int32.le_iff_toInt_le, nI_toInt h]
  have : (-1 : Int32).toInt = -1 := by decide
  omega
theorem lt_of_pred {I : AI} {k : Int32} {t : Nat} (hle : lastV I k (nv (I 100 13)) ≤ nI t) (h : t < 720 ∧ (lastV I k (nv (I 100 13)) = -1 ∨ ∃ l, l < 720 ∧ lastV I k (nv (I 100 13)) = nI l)) : lastV I k (nv (I 100 13)) - 1 < nI t := by
  rcases h.2 with e | ⟨l, hl, e⟩
  · rw [e]
    rw [show (-1 : Int32) - 1 = -2 by decide, Int32.lt_iff_toInt_lt, nI_toInt (by omega)]
    have : (-2 : Int32).toInt = -2 := by decide
    omega
  · rw [e] at hle ⊢
    have h1 : l ≤ t := Nat.le_of_not_lt fun q => nI_ge q (by omega) hle
    rcases Nat.lt_or_ge l t with q | q
    · cases l with
      | zero => rw [nI_0, show (0 : Int32) - 1 = -1 by decide, Int32.lt_iff_toInt_lt, nI_toInt (by omega)]; have : (-1 : Int32).toInt = -1 := by decide
                omega
      | succ l => rw [nI_pred]; exact nI_lt (by omega) (by omega)
    · rw [show l = t by omega]
      exact nI_ltp (by omega)
theorem c_findAfterA (γ : GE) {b c : Bool} {I : AI} {J : AJ} (hR : MRad I) (hT : MTel I) (hs : rg 720 (I 100 7)) (t : Nat) (k : Int32) (ht : t < 720) (hle : lastV I k (nv (I 100 13)) ≤ nI t) (hlt : t < 720 ∧ (lastV I k (nv (I 100 13)) = -1 ∨ ∃ l, l < 720 ∧ lastV I k (nv (I 100 13)) = nI l)) : Ct γ mX12_findAfter 4 0 0 [.ref 100, .int (nI t), .int k] (SS b c) I J ((fun r S' I' J' => none = r ∧ (SS b c) = S' ∧ J = J' ∧ (∀ a, a ≠ 116 → I' a = I a) ∧ ∀ x, x < 96 → I' 116 (96 * t + x) = bi (aftR I k t x))) := by
  have e7 : memM I k (t + 1) 100 7 = I 100 7 := by rw [memM_ne (by decide)]
  refine ct_of okX12_findAfter (L := [some (.ref 100), some (.int (nI t)), some (.int k), none, none, none, none, none]) (Nat.le_of_ble_eq_true rfl) rfl ?_
  refine r_run okX12_findAfter 2 (cs := []) (σ' := (2, [some (.ref 100), some (.int (nI t)), some (.int k), none, none, none, none, none], [.int k, .ref 100], (SS b c), I, J, 0, 0)) rfl trivial ?_
  refine r_callV okX12_findAfter okX12_lastTold [.int k] [] 100 rfl rfl rfl kkX12_lastTold rfl rfl (by decide) rfl rfl rfl (by decide) ⟨Nat.le_refl _, Nat.le_refl _⟩ (Nat.le_of_ble_eq_true rfl) (c_lastTold γ hT k) (fun v1 S1 I1 J1 hp => ?_)
  obtain ⟨rfl, rfl, rfl, rfl⟩ := hp
  show Rj _ _ _ _ _ _ (5, [some (.ref 100), some (.int (nI t)), some (.int k), none, none, none, none, none], [.int (lastV I k (nv (I 100 13)))], (SS b c), I, J, 0, 0)
  refine r_run okX12_findAfter 4 (cs := []) (σ' := (9, [some (.ref 100), some (.int (nI t)), some (.int k), some (.int (lastV I k (nv (I 100 13)))), none, none, none, none], [.int (nI t), .int (lastV I k (nv (I 100 13))), .ref 100], (SS b c), I, J, 0, 0)) rfl trivial ?_
  refine r_icmp okX12_findAfter rfl (fun (h9 : (lastV I k (nv (I 100 13))) ≤ (nI t)) => ?_) (fun (h9 : ¬ (lastV I k (nv (I 100 13))) ≤ (nI t)) => ?_)
  · refine r_run okX12_findAfter 2 (cs := []) (σ' := (18, [some (.ref 100), some (.int (nI t)), some (.int k), some (.int (lastV I k (nv (I 100 13)))), none, none, none, none], [.int k, .int (nI t), .ref 100], (SS b c), I, J, 0, 0)) rfl trivial ?_
    refine r_callV okX12_findAfter okX12_findMaybe [.int (nI t), .int k] [] 100 rfl rfl rfl kkX12_findMaybe rfl rfl (by decide) rfl rfl rfl (by decide) ⟨Nat.le_refl _, Nat.le_refl _⟩ (Nat.le_of_ble_eq_true rfl) (c_findMaybe0 γ t k (by omega) hR hT hs) (fun v1 S1 I1 J1 hp => ?_)
    obtain ⟨rfl, rfl, rfl, rfl⟩ := hp
    show Rj _ _ _ _ _ _ (21, [some (.ref 100), some (.int (nI t)), some (.int k), some (.int (lastV I k (nv (I 100 13)))), none, none, none, none], [], (SS b c), (memM I k (t + 1)), J, 0, 0)
    refine r_run okX12_findAfter 3 (cs := []) (σ' := (26, [some (.ref 100), some (.int (nI t)), some (.int k), some (.int (lastV I k (nv (I 100 13)))), none, none, none, none], [.int ((memM I k (t + 1)) 100 7), .int (nI t)], (SS b c), (memM I k (t + 1)), J, 0, 0)) rfl trivial ?_
    simp only [e7]
    show Rj _ _ _ _ _ _ (26, [some (.ref 100), some (.int (nI t)), some (.int k), some (.int (lastV I k (nv (I 100 13)))), none, none, none, none], [.int (I 100 7), .int (nI t)], (SS b c), (memM I k (t + 1)), J, 0, 0)
    refine r_icmp okX12_findAfter rfl (fun (h26 : (I 100 7) ≤ (nI t)) => ?_) (fun (h26 : ¬ (I 100 7) ≤ (nI t)) => ?_)
    · refine r_run okX12_findAfter 6 (cs := []) (σ' := (38, [some (.ref 100), some (.int (nI t)), some (.int k), some (.int (lastV I k (nv (I 100 13)))), some (.int ((lastV I k (nv (I 100 13))) - 1)), none, none, none], [.int (nI t), .int ((lastV I k (nv (I 100 13))) - 1)], (SS b c), (memM I k (t + 1)), J, 0, 0)) rfl trivial ?_
      refine r_icmp okX12_findAfter rfl (fun (h38 : ((lastV I k (nv (I 100 13))) - 1) < (nI t)) => ?_) (fun (h38 : ¬ ((lastV I k (nv (I 100 13))) - 1) < (nI t)) => ?_)
      · refine r_vret okX12_findAfter rfl rfl (Nat.le_refl _) (Nat.le_refl _) ?_
        exact ⟨rfl, rfl, rfl, fun a h => memM_ne h, fun x hx => by rw [memM_at (by omega) hx, aftR, if_pos hle]⟩
      · exact absurd (lt_of_pred hle hlt) h38
    · refine r_vret okX12_findAfter rfl rfl (Nat.le_refl _) (Nat.le_refl _) ?_
      exact ⟨rfl, rfl, rfl, fun a h => memM_ne h, fun x hx => by rw [memM_at (by omega) hx, aftR, if_pos hle]⟩
  · exact absurd hle h9
theorem c_findAfterB (γ : GE) {b c : Bool} {I : AI} {J : AJ} (hR : MRad I) (hT : MTel I) (hs : rg 720 (I 100 7)) (t : Nat) (k : Int32) (ht : t < 720) (l : Nat) (hl : l < 720) (el : lastV I k (nv (I 100 13)) = nI l) (hlt : t < l) : Ct γ mX12_findAfter 4 0 0 [.ref 100, .int (nI t), .int k] (SS b c) I J ((fun r S' I' J' => none = r ∧ (SS b c) = S' ∧ J = J' ∧ (∀ a, a ≠ 116 → I' a = I a) ∧ ∀ x, x < 96 → I' 116 (96 * t + x) = bi (aftR I k t x))) := by
  have e7 : memM I k (l + 1) 100 7 = I 100 7 := by rw [memM_ne (by decide)]
  refine ct_of okX12_findAfter (L := [some (.ref 100), some (.int (nI t)), some (.int k), none, none, none, none, none]) (Nat.le_of_ble_eq_true rfl) rfl ?_
  refine r_run okX12_findAfter 2 (cs := []) (σ' := (2, [some (.ref 100), some (.int (nI t)), some (.int k), none, none, none, none, none], [.int k, .ref 100], (SS b c), I, J, 0, 0)) rfl trivial ?_
  refine r_callV okX12_findAfter okX12_lastTold [.int k] [] 100 rfl rfl rfl kkX12_lastTold rfl rfl (by decide) rfl rfl rfl (by decide) ⟨Nat.le_refl _, Nat.le_refl _⟩ (Nat.le_of_ble_eq_true rfl) (c_lastTold γ hT k) (fun v1 S1 I1 J1 hp => ?_)
  obtain ⟨rfl, rfl, rfl, rfl⟩ := hp
  rw [el]
  show Rj _ _ _ _ _ _ (5, [some (.ref 100), some (.int (nI t)), some (.int k), none, none, none, none, none], [.int (nI l)], (SS b c), I, J, 0, 0)
  refine r_run okX12_findAfter 4 (cs := []) (σ' := (9, [some (.ref 100), some (.int (nI t)), some (.int k), some (.int (nI l)), none, none, none, none], [.int (nI t), .int (nI l), .ref 100], (SS b c), I, J, 0, 0)) rfl trivial ?_
  refine r_icmp okX12_findAfter rfl (fun (h9 : (nI l) ≤ (nI t)) => ?_) (fun (h9 : ¬ (nI l) ≤ (nI t)) => ?_)
  · exact absurd h9 (nI_ge hlt (by omega))
  · refine r_run okX12_findAfter 3 (cs := []) (σ' := (18, [some (.ref 100), some (.int (nI t)), some (.int k), some (.int (nI l)), none, none, none, none], [.int k, .int (nI l), .ref 100], (SS b c), I, J, 0, 0)) rfl trivial ?_
    refine r_callV okX12_findAfter okX12_findMaybe [.int (nI l), .int k] [] 100 rfl rfl rfl kkX12_findMaybe rfl rfl (by decide) rfl rfl rfl (by decide) ⟨Nat.le_refl _, Nat.le_refl _⟩ (Nat.le_of_ble_eq_true rfl) (c_findMaybe0 γ l k (by omega) hR hT hs) (fun v1 S1 I1 J1 hp => ?_)
    obtain ⟨rfl, rfl, rfl, rfl⟩ := hp
    show Rj _ _ _ _ _ _ (21, [some (.ref 100), some (.int (nI t)), some (.int k), some (.int (nI l)), none, none, none, none], [], (SS b c), (memM I k (l + 1)), J, 0, 0)
    refine r_run okX12_findAfter 3 (cs := []) (σ' := (26, [some (.ref 100), some (.int (nI t)), some (.int k), some (.int (nI l)), none, none, none, none], [.int ((memM I k (l + 1)) 100 7), .int (nI t)], (SS b c), (memM I k (l + 1)), J, 0, 0)) rfl trivial ?_
    simp only [e7]
    show Rj _ _ _ _ _ _ (26, [some (.ref 100), some (.int (nI t)), some (.int k), some (.int (nI l)), none, none, none, none], [.int (I 100 7), .int (nI t)], (SS b c), (memM I k (l + 1)), J, 0, 0)
    refine r_icmp okX12_findAfter rfl (fun (h26 : (I 100 7) ≤ (nI t)) => ?_) (fun (h26 : ¬ (I 100 7) ≤ (nI t)) => ?_)
    · refine r_run okX12_findAfter 4 (cs := []) (σ' := (35, [some (.ref 100), some (.int (nI t)), some (.int k), some (.int (nI l)), some (.int ((nI l) - 1)), none, none, none], [], (SS b c), (memM I k (l + 1)), J, 0, 0)) rfl trivial ?_
      refine r_post (Post' := (fun r S' I' J' => none = r ∧ (SS b c) = S' ∧ J = J' ∧ (∀ a, a ≠ 116 → I' a = I a) ∧ ∀ x, x < 96 → I' 116 (96 * t + x) = bi (aftB I k l (l - t) x))) (fun v S1 I2 J1 hp => ?_) ?_
      · obtain ⟨p1, p2, p3, p4, p5⟩ := hp
        exact ⟨p1, p2, p3, p4, fun x hx => by rw [p5 x hx, aftR, if_neg (by rw [el]; exact nI_ge hlt (by omega)), if_neg (Int32.not_lt.mpr h26), el, nv_nI (by omega)]⟩
      · have h := lp_Am γ (b := b) (c := c) (I := I) (J := J) t l k hl (l - t) (memM I k (l + 1)) (by omega) ⟨fun a h => memM_ne h, fun x hx => by rw [show t + (l - t) = l by omega, memM_at (by omega) hx, Nat.sub_self]; rfl, fun r hr x hx => memM_at (by omega) hx⟩
        rw [show t + (l - t) = l by omega] at h
        exact h
    · refine r_vret okX12_findAfter rfl rfl (Nat.le_refl _) (Nat.le_refl _) ?_
      exact ⟨rfl, rfl, rfl, fun a h => memM_ne h, fun x hx => by rw [memM_at (by omega) hx, aftR, if_neg (by rw [el]; exact nI_ge hlt (by omega)), if_pos (Int32.not_le.mp h26)]⟩
theorem c_findAfter (γ : GE) {b c : Bool} {I : AI} {J : AJ} (hR : MRad I) (hT : MTel I) (hs : rg 720 (I 100 7)) (t : Nat) (k : Int32) (ht : t < 720) : Ct γ mX12_findAfter 4 0 0 [.ref 100, .int (nI t), .int k] (SS b c) I J (fun r S' I' J' => none = r ∧ (SS b c) = S' ∧ J = J' ∧ (∀ a, a ≠ 116 → I' a = I a) ∧ ∀ x, x < 96 → I' 116 (96 * t + x) = bi (aftR I k t x)) := by
  rcases last_nat (k := k) hT _ (Nat.le_refl _) with e | ⟨l, hl, e⟩
  · exact c_findAfterA γ hR hT hs t k ht (by rw [e]; exact m1_le (by omega)) ⟨ht, Or.inl e⟩
  · rcases Nat.lt_or_ge t l with h | h
    · exact c_findAfterB γ hR hT hs t k ht l hl e h
    · exact c_findAfterA γ hR hT hs t k ht (by rw [e]; exact nI_le h (by omega)) ⟨ht, Or.inr ⟨l, hl, e⟩⟩
