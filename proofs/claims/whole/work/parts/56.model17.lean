/-! ===== the reference: judge, post, posts ===== -/
def rgtN (I : AI) (y : Int32) : Nat → Nat → Bool
  | 0, _ => false
  | j + 1, t => trI I t y || rgtN I y j (t + 1)
def rgt (I : AI) (w : Nat) : Bool := rgtN I (I 127 w) (nv (I 129 w) - nv (I 128 w)) (nv (I 128 w))
def clE (v : Int32) : Int32 := if 100 < v then 100 else if v < 10 then 10 else v
def dueB (I : AI) (w : Nat) : Bool := decide (I 129 w ≤ I 100 5) && decide (I 131 w ≤ 0)
def jdN (I : AI) (w : Nat) : AI := upI (upI I 133 (nv (I 127 w)) (clE (I 133 (nv (I 127 w)) + (if rgt I w then 5 else -10)))) 131 w (if rgt I w then 1 else 2)
def jdS : Nat → Nat → Nat → AI → AI × Nat
  | 0, _, n, I => (I, n)
  | j + 1, w, n, I => if dueB I w then jdS j (w + 1) (n + 1) (jdN I w) else jdS j (w + 1) n I
theorem clE_rg : ∀ k, k < 101 → ∀ r : Bool, rg 101 (clE (nI k + (if r then 5 else -10))) := by
  have h : ∀ k, k < 101 → ∀ r : Bool, nv (clE (nI k + (if r then 5 else -10))) < 101 ∧ clE (nI k + (if r then 5 else -10)) = nI (nv (clE (nI k + (if r then 5 else -10)))) := by decide +kernel
  intro k hk r
  exact ⟨_, (h k hk r).1, (h k hk r).2⟩
theorem MWar_jd {I : AI} {w : Nat} (h : MWar I) (hw : w < nv (I 100 45)) : MWar (jdN I w) := by
  obtain ⟨h1, h2, h3, h4⟩ := h
  refine ⟨h1, h2, fun k hk => ?_, fun v hv => ?_⟩
  · obtain ⟨⟨y, hy, ey⟩, -⟩ := h4 w hw
    show rg 101 (upI (upI I 133 _ _) 131 w _ 133 k)
    rw [upI_ne (by decide)]
    by_cases e : k = nv (I 127 w)
    · subst e
      rw [upI_self]
      obtain ⟨z, hz, ez⟩ := h3 (nv (I 127 w)) hk
      rw [ez]
      exact clE_rg z hz _
    · simp only [upI, if_true, e, if_false]
      exact h3 k hk
  · obtain ⟨q1, q2, q3, q4, q5⟩ := h4 v hv
    refine ⟨q1, q2, q3, q4, ?_⟩
    show rg 3 (upI (upI I 133 _ _) 131 w _ 131 v)
    by_cases e : v = w
    · subst e
      rw [upI_self]
      split
      · exact ⟨1, by decide, rfl⟩
      · exact ⟨2, by decide, rfl⟩
    · simp only [upI, if_true, e, if_false]
      exact q5
theorem jdN_ne {I : AI} {w a : Nat} (h1 : a ≠ 133) (h2 : a ≠ 131) : jdN I w a = I a := by
  unfold jdN; rw [upI_ne h2, upI_ne h1]
theorem lp_jt (γ : GE) {b c : Bool} {I : AI} {J : AJ} {Post : PT} (n w : Nat) (hw : w < 200) (hTr : MTru I) (e : Nat) (he : e < 720) (ee : I 129 w = nI e) (K : ∀ r : Bool, rgt I w = r → Rj γ mX12_judge 1 0 0 Post (86, [some (.ref 100), some (.int (nI n)), some (.int (nI w)), some (.int (bi r)), none], [], (SS b c), I, J, 0, 0)) : ∀ (j t : Nat) (f : Bool), t ≤ 720 → j = e - t → (f || rgtN I (I 127 w) j t) = rgt I w → Rj γ mX12_judge 1 0 0 Post (52, [some (.ref 100), some (.int (nI n)), some (.int (nI w)), some (.int (bi f)), some (.int (nI t))], [], (SS b c), I, J, 0, 0) := by
  have cw : (nI w).toNatClampNeg = w := nI_clamp (by omega)
  intro j
  induction j with
  | zero =>
    intro t f ht hj hr
    refine r_run okX12_judge 5 (cs := [vp_in (nI w) 200]) (σ' := (60, [some (.ref 100), some (.int (nI n)), some (.int (nI w)), some (.int (bi f)), some (.int (nI t))], [.int (I 129 ((nI w).toNatClampNeg)), .int (nI t)], (SS b c), I, J, 0, 0)) rfl ⟨(vin hw (by decide)), trivial⟩ ?_
    simp only [cw]
    show Rj _ _ _ _ _ _ (60, [some (.ref 100), some (.int (nI n)), some (.int (nI w)), some (.int (bi f)), some (.int (nI t))], [.int (I 129 w), .int (nI t)], (SS b c), I, J, 0, 0)
    refine r_icmp okX12_judge rfl (fun (h60 : (I 129 w) ≤ (nI t)) => ?_) (fun (h60 : ¬ (I 129 w) ≤ (nI t)) => ?_)
    · refine r_weak (L' := [some (.ref 100), some (.int (nI n)), some (.int (nI w)), some (.int (bi f)), none]) ⟨rfl, rfl, rfl, rfl, trivial⟩ ?_
      exact K f (by rw [← hr]; simp [rgtN])
    · exact absurd (by rw [ee]; exact nI_le (by omega) (by omega)) h60
  | succ j ih =>
    intro t f ht hj hr
    refine r_run okX12_judge 5 (cs := [vp_in (nI w) 200]) (σ' := (60, [some (.ref 100), some (.int (nI n)), some (.int (nI w)), some (.int (bi f)), some (.int (nI t))], [.int (I 129 ((nI w).toNatClampNeg)), .int (nI t)], (SS b c), I, J, 0, 0)) rfl ⟨(vin hw (by decide)), trivial⟩ ?_
    simp only [cw]
    show Rj _ _ _ _ _ _ (60, [some (.ref 100), some (.int (nI n)), some (.int (nI w)), some (.int (bi f)), some (.int (nI t))], [.int (I 129 w), .int (nI t)], (SS b c), I, J, 0, 0)
    refine r_icmp okX12_judge rfl (fun (h60 : (I 129 w) ≤ (nI t)) => ?_) (fun (h60 : ¬ (I 129 w) ≤ (nI t)) => ?_)
    · exact absurd h60 (by rw [ee]; exact nI_ge (by omega) (by omega))
    · refine r_run okX12_judge 6 (cs := [vp_in (nI w) 200]) (σ' := (72, [some (.ref 100), some (.int (nI n)), some (.int (nI w)), some (.int (bi f)), some (.int (nI t))], [.int (I 127 ((nI w).toNatClampNeg)), .int (nI t), .ref 100], (SS b c), I, J, 0, 0)) rfl ⟨(vin hw (by decide)), trivial⟩ ?_
      simp only [cw]
      show Rj _ _ _ _ _ _ (72, [some (.ref 100), some (.int (nI n)), some (.int (nI w)), some (.int (bi f)), some (.int (nI t))], [.int (I 127 w), .int (nI t), .ref 100], (SS b c), I, J, 0, 0)
      refine r_callV okX12_judge okX12_isTrueIn [.int (nI t), .int (I 127 w)] [] 100 rfl rfl rfl kkX12_isTrueIn rfl rfl (by decide) rfl rfl rfl (by decide) ⟨Nat.le_refl _, Nat.le_refl _⟩ (Nat.le_of_ble_eq_true rfl) (c_isTrueIn0 γ hTr t (by omega) _) (fun v1 S1 I1 J1 hp => ?_)
      obtain ⟨rfl, rfl, rfl, rfl⟩ := hp
      show Rj _ _ _ _ _ _ (75, [some (.ref 100), some (.int (nI n)), some (.int (nI w)), some (.int (bi f)), some (.int (nI t))], [.int (bi (trI I t (I 127 w)))], (SS b c), I, J, 0, 0)
      refine r_ifc okX12_judge rfl (fun (h75 : (bi (trI I t (I 127 w))) = (0 : Int32)) => ?_) (fun (h75 : ¬ (bi (trI I t (I 127 w))) = (0 : Int32)) => ?_)
      · have hs := bi_0.mp h75
        refine r_run okX12_judge 2 (cs := []) (σ' := (52, [some (.ref 100), some (.int (nI n)), some (.int (nI w)), some (.int (bi f)), some (.int (nI t + 1))], [], (SS b c), I, J, 0, 0)) rfl trivial ?_
        rw [← nI_succ]
        exact ih (t + 1) f (by omega) (by omega) (by rw [← hr, rgtN, hs, Bool.false_or])
      · have hs := bi_n0.mp h75
        refine r_run okX12_judge 4 (cs := []) (σ' := (52, [some (.ref 100), some (.int (nI n)), some (.int (nI w)), some (.int 1), some (.int (nI t + 1))], [], (SS b c), I, J, 0, 0)) rfl trivial ?_
        rw [← nI_succ]
        exact ih (t + 1) true (by omega) (by omega) (by rw [← hr, rgtN, hs]; simp)
theorem lp_judge (γ : GE) {b c : Bool} {J : AJ} (m : Nat) (hm : m < 201) : ∀ (j w n : Nat) (I1 : AI), w + j = m → MWar I1 → MTru I1 → I1 100 45 = nI m → Rj γ mX12_judge 1 0 0 (rI (nI (jdS j w n I1).2) (SS b c) (jdS j w n I1).1 J) (9, [some (.ref 100), some (.int (nI n)), some (.int (nI w)), none, none], [], (SS b c), I1, J, 0, 0) := by
  intro j
  induction j with
  | zero =>
    intro w n I1 hj hI hTr em
    refine r_run okX12_judge 3 (cs := []) (σ' := (14, [some (.ref 100), some (.int (nI n)), some (.int (nI w)), none, none], [.int (I1 100 45), .int (nI w)], (SS b c), I1, J, 0, 0)) rfl trivial ?_
    refine r_icmp okX12_judge rfl (fun (h14 : (I1 100 45) ≤ (nI w)) => ?_) (fun (h14 : ¬ (I1 100 45) ≤ (nI w)) => ?_)
    · refine r_run okX12_judge 1 (cs := []) (σ' := (173, [some (.ref 100), some (.int (nI n)), some (.int (nI w)), none, none], [.int (nI n)], (SS b c), I1, J, 0, 0)) rfl trivial ?_
      refine r_iret okX12_judge rfl rfl rfl (Nat.le_refl _) (Nat.le_refl _) ?_
      exact ⟨rfl, rfl, rfl, rfl⟩
    · exact absurd (by rw [em]; exact nI_le (by omega) (by omega)) h14
  | succ j ih =>
    intro w n I1 hj hI hTr em
    have cw : (nI w).toNatClampNeg = w := nI_clamp (by omega)
    refine r_run okX12_judge 3 (cs := []) (σ' := (14, [some (.ref 100), some (.int (nI n)), some (.int (nI w)), none, none], [.int (I1 100 45), .int (nI w)], (SS b c), I1, J, 0, 0)) rfl trivial ?_
    refine r_icmp okX12_judge rfl (fun (h14 : (I1 100 45) ≤ (nI w)) => ?_) (fun (h14 : ¬ (I1 100 45) ≤ (nI w)) => ?_)
    · exact absurd h14 (by rw [em]; exact nI_ge (by omega) (by omega))
    · refine r_run okX12_judge 6 (cs := [vp_in (nI w) 200]) (σ' := (27, [some (.ref 100), some (.int (nI n)), some (.int (nI w)), none, none], [.int (I1 100 5), .int (I1 129 ((nI w).toNatClampNeg))], (SS b c), I1, J, 0, 0)) rfl ⟨(vin (by omega) (by decide)), trivial⟩ ?_
      simp only [cw]
      show Rj _ _ _ _ _ _ (27, [some (.ref 100), some (.int (nI n)), some (.int (nI w)), none, none], [.int (I1 100 5), .int (I1 129 w)], (SS b c), I1, J, 0, 0)
      refine r_icmp okX12_judge rfl (fun (h27 : (I1 100 5) < (I1 129 w)) => ?_) (fun (h27 : ¬ (I1 100 5) < (I1 129 w)) => ?_)
      · refine r_run okX12_judge 2 (cs := []) (σ' := (9, [some (.ref 100), some (.int (nI n)), some (.int (nI w + 1)), none, none], [], (SS b c), I1, J, 0, 0)) rfl trivial ?_
        rw [← nI_succ]
        refine r_weak (L' := [some (.ref 100), some (.int (nI n)), some (.int (nI (w + 1))), none, none]) ⟨rfl, rfl, rfl, trivial⟩ ?_
        have hd : dueB I1 w = false := by unfold dueB; rw [decide_eq_false (Int32.not_le.mpr h27)]; rfl
        rw [jdS, hd, if_neg (by decide)]
        exact ih (w + 1) n I1 (by omega) hI hTr em
      · refine r_run okX12_judge 4 (cs := [vp_in (nI w) 200]) (σ' := (36, [some (.ref 100), some (.int (nI n)), some (.int (nI w)), none, none], [.int (I1 131 ((nI w).toNatClampNeg))], (SS b c), I1, J, 0, 0)) rfl ⟨(vin (by omega) (by decide)), trivial⟩ ?_
        simp only [cw]
        show Rj _ _ _ _ _ _ (36, [some (.ref 100), some (.int (nI n)), some (.int (nI w)), none, none], [.int (I1 131 w)], (SS b c), I1, J, 0, 0)
        refine r_ifc okX12_judge rfl (fun (h36 : (I1 131 w) ≤ (0 : Int32)) => ?_) (fun (h36 : ¬ (I1 131 w) ≤ (0 : Int32)) => ?_)
        · refine r_run okX12_judge 7 (cs := [vp_in (nI w) 200]) (σ' := (52, [some (.ref 100), some (.int (nI n)), some (.int (nI w)), some (.int 0), some (.int (I1 128 ((nI w).toNatClampNeg)))], [], (SS b c), I1, J, 0, 0)) rfl ⟨(vin (by omega) (by decide)), trivial⟩ ?_
          simp only [cw]
          show Rj _ _ _ _ _ _ (52, [some (.ref 100), some (.int (nI n)), some (.int (nI w)), some (.int 0), some (.int (I1 128 w))], [], (SS b c), I1, J, 0, 0)
          have hw : w < 200 := by omega
          obtain ⟨⟨k, hk, ek⟩, ⟨s, hs, es⟩, ⟨e, he, ee⟩, -, -⟩ := hI.2.2.2 w (by rw [em, nv_nI (by omega)]; omega)
          obtain ⟨z, hz, ez⟩ := hI.2.1
          have hez : e ≤ z := Nat.le_of_not_lt fun q => h27 (by rw [ez, ee]; exact nI_lt q (by omega))
          have hd : dueB I1 w = true := by unfold dueB; rw [decide_eq_true (Int32.not_lt.mp h27), decide_eq_true h36]; rfl
          have ck : (I1 127 w).toNatClampNeg = k := by rw [ek]; exact nI_clamp (by omega)
          have ck0 : (I1 127 (nI w).toNatClampNeg).toNatClampNeg = k := by rw [cw]; exact ck
          have vk : vp_in (I1 127 w) 8 := by rw [ek]; exact vin hk (by decide)
          rw [es]
          refine lp_jt γ n w hw hTr e (by omega) ee (fun r hr => ?_) (e - s) s false (by omega) rfl (by rw [Bool.false_or, rgt, ee, es, nv_nI (by omega), nv_nI (by omega)])
          cases r with
          | true =>
            show Rj _ _ _ _ _ _ (86, [some (.ref 100), some (.int (nI n)), some (.int (nI w)), some (.int 1), none], [], (SS b c), I1, J, 0, 0)
            refine r_run okX12_judge 8 (cs := [vp_in (nI w) 200, vp_in (I1 127 ((nI w).toNatClampNeg)) 8]) (σ' := (98, [some (.ref 100), some (.int (nI n)), some (.int (nI w)), some (.int 1), none], [.int 1, .int (I1 133 ((I1 127 ((nI w).toNatClampNeg)).toNatClampNeg))], (SS b c), I1, J, 0, 0)) rfl ⟨(vin hw (by decide)), (by first | exact vk | (rw [cw]; exact vk)), trivial⟩ ?_
            simp only [cw, ck]
            show Rj _ _ _ _ _ _ (98, [some (.ref 100), some (.int (nI n)), some (.int (nI w)), some (.int 1), none], [.int 1, .int (I1 133 k)], (SS b c), I1, J, 0, 0)
            refine r_ifc okX12_judge rfl (fun (h98 : (1 : Int32) = (0 : Int32)) => ?_) (fun (h98 : ¬ (1 : Int32) = (0 : Int32)) => ?_)
            · exact absurd h98 (by decide)
            · refine r_run okX12_judge 12 (cs := [vp_in (nI w) 200]) (σ' := (124, [some (.ref 100), some (.int (nI n)), some (.int (nI w)), some (.int 1), some (.int ((I1 133 k) + 5))], [.int 100, .int ((I1 133 k) + 5), .int (I1 127 ((nI w).toNatClampNeg)), .ref 133], (SS b c), I1, J, 0, 0)) rfl ⟨(vin hw (by decide)), trivial⟩ ?_
              simp only [cw]
              show Rj _ _ _ _ _ _ (124, [some (.ref 100), some (.int (nI n)), some (.int (nI w)), some (.int 1), some (.int ((I1 133 k) + 5))], [.int 100, .int ((I1 133 k) + 5), .int (I1 127 w), .ref 133], (SS b c), I1, J, 0, 0)
              refine r_icmp okX12_judge rfl (fun (h124 : ((I1 133 k) + 5) ≤ (100 : Int32)) => ?_) (fun (h124 : ¬ ((I1 133 k) + 5) ≤ (100 : Int32)) => ?_)
              · refine r_run okX12_judge 2 (cs := []) (σ' := (136, [some (.ref 100), some (.int (nI n)), some (.int (nI w)), some (.int 1), some (.int ((I1 133 k) + 5))], [.int 10, .int ((I1 133 k) + 5), .int (I1 127 w), .ref 133], (SS b c), I1, J, 0, 0)) rfl trivial ?_
                refine r_icmp okX12_judge rfl (fun (h136 : (10 : Int32) ≤ ((I1 133 k) + 5)) => ?_) (fun (h136 : ¬ (10 : Int32) ≤ ((I1 133 k) + 5)) => ?_)
                · refine r_run okX12_judge 6 (cs := [vp_in (I1 127 w) 8]) (σ' := (153, [some (.ref 100), some (.int (nI n)), some (.int (nI w)), some (.int 1), some (.int ((I1 133 k) + 5))], [.int 1, .int (nI w), .ref 131], (SS b c), (upI I1 133 ((I1 127 w).toNatClampNeg) ((I1 133 k) + 5)), J, 0, 0)) rfl ⟨(by first | exact vk | (rw [cw]; exact vk)), trivial⟩ ?_
                  simp only [ck]
                  show Rj _ _ _ _ _ _ (153, [some (.ref 100), some (.int (nI n)), some (.int (nI w)), some (.int 1), some (.int ((I1 133 k) + 5))], [.int 1, .int (nI w), .ref 131], (SS b c), (upI I1 133 k ((I1 133 k) + 5)), J, 0, 0)
                  refine r_ifc okX12_judge rfl (fun (h153 : (1 : Int32) = (0 : Int32)) => ?_) (fun (h153 : ¬ (1 : Int32) = (0 : Int32)) => ?_)
                  · exact absurd h153 (by decide)
                  · refine r_run okX12_judge 9 (cs := [vp_in (nI w) 200]) (σ' := (9, [some (.ref 100), some (.int ((nI n) + 1)), some (.int (nI w + 1)), some (.int 1), some (.int ((I1 133 k) + 5))], [], (SS b c), (upI (upI I1 133 k ((I1 133 k) + 5)) 131 ((nI w).toNatClampNeg) 1), J, 0, 0)) rfl ⟨(vin hw (by decide)), trivial⟩ ?_
                    simp only [cw]
                    show Rj _ _ _ _ _ _ (9, [some (.ref 100), some (.int ((nI n) + 1)), some (.int (nI w + 1)), some (.int 1), some (.int ((I1 133 k) + 5))], [], (SS b c), (upI (upI I1 133 k ((I1 133 k) + 5)) 131 w 1), J, 0, 0)
                    rw [← nI_succ, ← nI_succ]
                    refine r_weak (L' := [some (.ref 100), some (.int (nI (n + 1))), some (.int (nI (w + 1))), none, none]) ⟨rfl, rfl, rfl, trivial⟩ ?_
                    have ej : jdN I1 w = (upI (upI I1 133 k ((I1 133 k) + 5)) 131 w 1) := by
                      unfold jdN
                      rw [hr, show nv (I1 127 w) = k by rw [ek, nv_nI (by omega)]]
                      simp only [if_true, if_false, Bool.false_eq_true, clE]
                      rw [if_neg (Int32.not_lt.mpr h124), if_neg (Int32.not_lt.mpr h136)]
                    rw [jdS, hd, if_pos rfl, ← ej]
                    exact ih (w + 1) (n + 1) (jdN I1 w) (by omega) (MWar_jd hI (by rw [em, nv_nI (by omega)]; omega)) (fun t ht => by rw [jdN_ne (by decide) (by decide)]; exact hTr t ht) (by rw [jdN_ne (by decide) (by decide)]; exact em)
                · refine r_run okX12_judge 7 (cs := [vp_in (I1 127 w) 8]) (σ' := (153, [some (.ref 100), some (.int (nI n)), some (.int (nI w)), some (.int 1), some (.int ((I1 133 k) + 5))], [.int 1, .int (nI w), .ref 131], (SS b c), (upI I1 133 ((I1 127 w).toNatClampNeg) 10), J, 0, 0)) rfl ⟨(by first | exact vk | (rw [cw]; exact vk)), trivial⟩ ?_
                  simp only [ck]
                  show Rj _ _ _ _ _ _ (153, [some (.ref 100), some (.int (nI n)), some (.int (nI w)), some (.int 1), some (.int ((I1 133 k) + 5))], [.int 1, .int (nI w), .ref 131], (SS b c), (upI I1 133 k 10), J, 0, 0)
                  refine r_ifc okX12_judge rfl (fun (h153_1 : (1 : Int32) = (0 : Int32)) => ?_) (fun (h153_1 : ¬ (1 : Int32) = (0 : Int32)) => ?_)
                  · exact absurd h153_1 (by decide)
                  · refine r_run okX12_judge 9 (cs := [vp_in (nI w) 200]) (σ' := (9, [some (.ref 100), some (.int ((nI n) + 1)), some (.int (nI w + 1)), some (.int 1), some (.int ((I1 133 k) + 5))], [], (SS b c), (upI (upI I1 133 k 10) 131 ((nI w).toNatClampNeg) 1), J, 0, 0)) rfl ⟨(vin hw (by decide)), trivial⟩ ?_
                    simp only [cw]
                    show Rj _ _ _ _ _ _ (9, [some (.ref 100), some (.int ((nI n) + 1)), some (.int (nI w + 1)), some (.int 1), some (.int ((I1 133 k) + 5))], [], (SS b c), (upI (upI I1 133 k 10) 131 w 1), J, 0, 0)
                    rw [← nI_succ, ← nI_succ]
                    refine r_weak (L' := [some (.ref 100), some (.int (nI (n + 1))), some (.int (nI (w + 1))), none, none]) ⟨rfl, rfl, rfl, trivial⟩ ?_
                    have ej : jdN I1 w = (upI (upI I1 133 k 10) 131 w 1) := by
                      unfold jdN
                      rw [hr, show nv (I1 127 w) = k by rw [ek, nv_nI (by omega)]]
                      simp only [if_true, if_false, Bool.false_eq_true, clE]
                      rw [if_neg (Int32.not_lt.mpr h124), if_pos (Int32.not_le.mp h136)]
                    rw [jdS, hd, if_pos rfl, ← ej]
                    exact ih (w + 1) (n + 1) (jdN I1 w) (by omega) (MWar_jd hI (by rw [em, nv_nI (by omega)]; omega)) (fun t ht => by rw [jdN_ne (by decide) (by decide)]; exact hTr t ht) (by rw [jdN_ne (by decide) (by decide)]; exact em)
              · refine r_run okX12_judge 7 (cs := [vp_in (I1 127 w) 8]) (σ' := (153, [some (.ref 100), some (.int (nI n)), some (.int (nI w)), some (.int 1), some (.int ((I1 133 k) + 5))], [.int 1, .int (nI w), .ref 131], (SS b c), (upI I1 133 ((I1 127 w).toNatClampNeg) 100), J, 0, 0)) rfl ⟨(by first | exact vk | (rw [cw]; exact vk)), trivial⟩ ?_
                simp only [ck]
                show Rj _ _ _ _ _ _ (153, [some (.ref 100), some (.int (nI n)), some (.int (nI w)), some (.int 1), some (.int ((I1 133 k) + 5))], [.int 1, .int (nI w), .ref 131], (SS b c), (upI I1 133 k 100), J, 0, 0)
                refine r_ifc okX12_judge rfl (fun (h153_2 : (1 : Int32) = (0 : Int32)) => ?_) (fun (h153_2 : ¬ (1 : Int32) = (0 : Int32)) => ?_)
                · exact absurd h153_2 (by decide)
                · refine r_run okX12_judge 9 (cs := [vp_in (nI w) 200]) (σ' := (9, [some (.ref 100), some (.int ((nI n) + 1)), some (.int (nI w + 1)), some (.int 1), some (.int ((I1 133 k) + 5))], [], (SS b c), (upI (upI I1 133 k 100) 131 ((nI w).toNatClampNeg) 1), J, 0, 0)) rfl ⟨(vin hw (by decide)), trivial⟩ ?_
                  simp only [cw]
                  show Rj _ _ _ _ _ _ (9, [some (.ref 100), some (.int ((nI n) + 1)), some (.int (nI w + 1)), some (.int 1), some (.int ((I1 133 k) + 5))], [], (SS b c), (upI (upI I1 133 k 100) 131 w 1), J, 0, 0)
                  rw [← nI_succ, ← nI_succ]
                  refine r_weak (L' := [some (.ref 100), some (.int (nI (n + 1))), some (.int (nI (w + 1))), none, none]) ⟨rfl, rfl, rfl, trivial⟩ ?_
                  have ej : jdN I1 w = (upI (upI I1 133 k 100) 131 w 1) := by
                    unfold jdN
                    rw [hr, show nv (I1 127 w) = k by rw [ek, nv_nI (by omega)]]
                    simp only [if_true, if_false, Bool.false_eq_true, clE]
                    rw [if_pos (Int32.not_le.mp h124)]
                  rw [jdS, hd, if_pos rfl, ← ej]
                  exact ih (w + 1) (n + 1) (jdN I1 w) (by omega) (MWar_jd hI (by rw [em, nv_nI (by omega)]; omega)) (fun t ht => by rw [jdN_ne (by decide) (by decide)]; exact hTr t ht) (by rw [jdN_ne (by decide) (by decide)]; exact em)
          | false =>
            show Rj _ _ _ _ _ _ (86, [some (.ref 100), some (.int (nI n)), some (.int (nI w)), some (.int 0), none], [], (SS b c), I1, J, 0, 0)
            refine r_run okX12_judge 8 (cs := [vp_in (nI w) 200, vp_in (I1 127 ((nI w).toNatClampNeg)) 8]) (σ' := (98, [some (.ref 100), some (.int (nI n)), some (.int (nI w)), some (.int 0), none], [.int 0, .int (I1 133 ((I1 127 ((nI w).toNatClampNeg)).toNatClampNeg))], (SS b c), I1, J, 0, 0)) rfl ⟨(vin hw (by decide)), (by first | exact vk | (rw [cw]; exact vk)), trivial⟩ ?_
            simp only [cw, ck]
            show Rj _ _ _ _ _ _ (98, [some (.ref 100), some (.int (nI n)), some (.int (nI w)), some (.int 0), none], [.int 0, .int (I1 133 k)], (SS b c), I1, J, 0, 0)
            refine r_ifc okX12_judge rfl (fun (h98 : (0 : Int32) = (0 : Int32)) => ?_) (fun (h98 : ¬ (0 : Int32) = (0 : Int32)) => ?_)
            · refine r_run okX12_judge 11 (cs := [vp_in (nI w) 200]) (σ' := (124, [some (.ref 100), some (.int (nI n)), some (.int (nI w)), some (.int 0), some (.int ((I1 133 k) + (-10)))], [.int 100, .int ((I1 133 k) + (-10)), .int (I1 127 ((nI w).toNatClampNeg)), .ref 133], (SS b c), I1, J, 0, 0)) rfl ⟨(vin hw (by decide)), trivial⟩ ?_
              simp only [cw]
              show Rj _ _ _ _ _ _ (124, [some (.ref 100), some (.int (nI n)), some (.int (nI w)), some (.int 0), some (.int ((I1 133 k) + (-10)))], [.int 100, .int ((I1 133 k) + (-10)), .int (I1 127 w), .ref 133], (SS b c), I1, J, 0, 0)
              refine r_icmp okX12_judge rfl (fun (h124 : ((I1 133 k) + (-10)) ≤ (100 : Int32)) => ?_) (fun (h124 : ¬ ((I1 133 k) + (-10)) ≤ (100 : Int32)) => ?_)
              · refine r_run okX12_judge 2 (cs := []) (σ' := (136, [some (.ref 100), some (.int (nI n)), some (.int (nI w)), some (.int 0), some (.int ((I1 133 k) + (-10)))], [.int 10, .int ((I1 133 k) + (-10)), .int (I1 127 w), .ref 133], (SS b c), I1, J, 0, 0)) rfl trivial ?_
                refine r_icmp okX12_judge rfl (fun (h136 : (10 : Int32) ≤ ((I1 133 k) + (-10))) => ?_) (fun (h136 : ¬ (10 : Int32) ≤ ((I1 133 k) + (-10))) => ?_)
                · refine r_run okX12_judge 6 (cs := [vp_in (I1 127 w) 8]) (σ' := (153, [some (.ref 100), some (.int (nI n)), some (.int (nI w)), some (.int 0), some (.int ((I1 133 k) + (-10)))], [.int 0, .int (nI w), .ref 131], (SS b c), (upI I1 133 ((I1 127 w).toNatClampNeg) ((I1 133 k) + (-10))), J, 0, 0)) rfl ⟨(by first | exact vk | (rw [cw]; exact vk)), trivial⟩ ?_
                  simp only [ck]
                  show Rj _ _ _ _ _ _ (153, [some (.ref 100), some (.int (nI n)), some (.int (nI w)), some (.int 0), some (.int ((I1 133 k) + (-10)))], [.int 0, .int (nI w), .ref 131], (SS b c), (upI I1 133 k ((I1 133 k) + (-10))), J, 0, 0)
                  refine r_ifc okX12_judge rfl (fun (h153 : (0 : Int32) = (0 : Int32)) => ?_) (fun (h153 : ¬ (0 : Int32) = (0 : Int32)) => ?_)
                  · refine r_run okX12_judge 8 (cs := [vp_in (nI w) 200]) (σ' := (9, [some (.ref 100), some (.int ((nI n) + 1)), some (.int (nI w + 1)), some (.int 0), some (.int ((I1 133 k) + (-10)))], [], (SS b c), (upI (upI I1 133 k ((I1 133 k) + (-10))) 131 ((nI w).toNatClampNeg) 2), J, 0, 0)) rfl ⟨(vin hw (by decide)), trivial⟩ ?_
                    simp only [cw]
                    show Rj _ _ _ _ _ _ (9, [some (.ref 100), some (.int ((nI n) + 1)), some (.int (nI w + 1)), some (.int 0), some (.int ((I1 133 k) + (-10)))], [], (SS b c), (upI (upI I1 133 k ((I1 133 k) + (-10))) 131 w 2), J, 0, 0)
                    rw [← nI_succ, ← nI_succ]
                    refine r_weak (L' := [some (.ref 100), some (.int (nI (n + 1))), some (.int (nI (w + 1))), none, none]) ⟨rfl, rfl, rfl, trivial⟩ ?_
                    have ej : jdN I1 w = (upI (upI I1 133 k ((I1 133 k) + (-10))) 131 w 2) := by
                      unfold jdN
                      rw [hr, show nv (I1 127 w) = k by rw [ek, nv_nI (by omega)]]
                      simp only [if_true, if_false, Bool.false_eq_true, clE]
                      rw [if_neg (Int32.not_lt.mpr h124), if_neg (Int32.not_lt.mpr h136)]
                    rw [jdS, hd, if_pos rfl, ← ej]
                    exact ih (w + 1) (n + 1) (jdN I1 w) (by omega) (MWar_jd hI (by rw [em, nv_nI (by omega)]; omega)) (fun t ht => by rw [jdN_ne (by decide) (by decide)]; exact hTr t ht) (by rw [jdN_ne (by decide) (by decide)]; exact em)
                  · exact absurd h153 (by decide)
                · refine r_run okX12_judge 7 (cs := [vp_in (I1 127 w) 8]) (σ' := (153, [some (.ref 100), some (.int (nI n)), some (.int (nI w)), some (.int 0), some (.int ((I1 133 k) + (-10)))], [.int 0, .int (nI w), .ref 131], (SS b c), (upI I1 133 ((I1 127 w).toNatClampNeg) 10), J, 0, 0)) rfl ⟨(by first | exact vk | (rw [cw]; exact vk)), trivial⟩ ?_
                  simp only [ck]
                  show Rj _ _ _ _ _ _ (153, [some (.ref 100), some (.int (nI n)), some (.int (nI w)), some (.int 0), some (.int ((I1 133 k) + (-10)))], [.int 0, .int (nI w), .ref 131], (SS b c), (upI I1 133 k 10), J, 0, 0)
                  refine r_ifc okX12_judge rfl (fun (h153_1 : (0 : Int32) = (0 : Int32)) => ?_) (fun (h153_1 : ¬ (0 : Int32) = (0 : Int32)) => ?_)
                  · refine r_run okX12_judge 8 (cs := [vp_in (nI w) 200]) (σ' := (9, [some (.ref 100), some (.int ((nI n) + 1)), some (.int (nI w + 1)), some (.int 0), some (.int ((I1 133 k) + (-10)))], [], (SS b c), (upI (upI I1 133 k 10) 131 ((nI w).toNatClampNeg) 2), J, 0, 0)) rfl ⟨(vin hw (by decide)), trivial⟩ ?_
                    simp only [cw]
                    show Rj _ _ _ _ _ _ (9, [some (.ref 100), some (.int ((nI n) + 1)), some (.int (nI w + 1)), some (.int 0), some (.int ((I1 133 k) + (-10)))], [], (SS b c), (upI (upI I1 133 k 10) 131 w 2), J, 0, 0)
                    rw [← nI_succ, ← nI_succ]
                    refine r_weak (L' := [some (.ref 100), some (.int (nI (n + 1))), some (.int (nI (w + 1))), none, none]) ⟨rfl, rfl, rfl, trivial⟩ ?_
                    have ej : jdN I1 w = (upI (upI I1 133 k 10) 131 w 2) := by
                      unfold jdN
                      rw [hr, show nv (I1 127 w) = k by rw [ek, nv_nI (by omega)]]
                      simp only [if_true, if_false, Bool.false_eq_true, clE]
                      rw [if_neg (Int32.not_lt.mpr h124), if_pos (Int32.not_le.mp h136)]
                    rw [jdS, hd, if_pos rfl, ← ej]
                    exact ih (w + 1) (n + 1) (jdN I1 w) (by omega) (MWar_jd hI (by rw [em, nv_nI (by omega)]; omega)) (fun t ht => by rw [jdN_ne (by decide) (by decide)]; exact hTr t ht) (by rw [jdN_ne (by decide) (by decide)]; exact em)
                  · exact absurd h153_1 (by decide)
              · refine r_run okX12_judge 7 (cs := [vp_in (I1 127 w) 8]) (σ' := (153, [some (.ref 100), some (.int (nI n)), some (.int (nI w)), some (.int 0), some (.int ((I1 133 k) + (-10)))], [.int 0, .int (nI w), .ref 131], (SS b c), (upI I1 133 ((I1 127 w).toNatClampNeg) 100), J, 0, 0)) rfl ⟨(by first | exact vk | (rw [cw]; exact vk)), trivial⟩ ?_
                simp only [ck]
                show Rj _ _ _ _ _ _ (153, [some (.ref 100), some (.int (nI n)), some (.int (nI w)), some (.int 0), some (.int ((I1 133 k) + (-10)))], [.int 0, .int (nI w), .ref 131], (SS b c), (upI I1 133 k 100), J, 0, 0)
                refine r_ifc okX12_judge rfl (fun (h153_2 : (0 : Int32) = (0 : Int32)) => ?_) (fun (h153_2 : ¬ (0 : Int32) = (0 : Int32)) => ?_)
                · refine r_run okX12_judge 8 (cs := [vp_in (nI w) 200]) (σ' := (9, [some (.ref 100), some (.int ((nI n) + 1)), some (.int (nI w + 1)), some (.int 0), some (.int ((I1 133 k) + (-10)))], [], (SS b c), (upI (upI I1 133 k 100) 131 ((nI w).toNatClampNeg) 2), J, 0, 0)) rfl ⟨(vin hw (by decide)), trivial⟩ ?_
                  simp only [cw]
                  show Rj _ _ _ _ _ _ (9, [some (.ref 100), some (.int ((nI n) + 1)), some (.int (nI w + 1)), some (.int 0), some (.int ((I1 133 k) + (-10)))], [], (SS b c), (upI (upI I1 133 k 100) 131 w 2), J, 0, 0)
                  rw [← nI_succ, ← nI_succ]
                  refine r_weak (L' := [some (.ref 100), some (.int (nI (n + 1))), some (.int (nI (w + 1))), none, none]) ⟨rfl, rfl, rfl, trivial⟩ ?_
                  have ej : jdN I1 w = (upI (upI I1 133 k 100) 131 w 2) := by
                    unfold jdN
                    rw [hr, show nv (I1 127 w) = k by rw [ek, nv_nI (by omega)]]
                    simp only [if_true, if_false, Bool.false_eq_true, clE]
                    rw [if_pos (Int32.not_le.mp h124)]
                  rw [jdS, hd, if_pos rfl, ← ej]
                  exact ih (w + 1) (n + 1) (jdN I1 w) (by omega) (MWar_jd hI (by rw [em, nv_nI (by omega)]; omega)) (fun t ht => by rw [jdN_ne (by decide) (by decide)]; exact hTr t ht) (by rw [jdN_ne (by decide) (by decide)]; exact em)
                · exact absurd h153_2 (by decide)
            · exact absurd h98 (by decide)
        · refine r_run okX12_judge 3 (cs := []) (σ' := (9, [some (.ref 100), some (.int (nI n)), some (.int (nI w + 1)), none, none], [], (SS b c), I1, J, 0, 0)) rfl trivial ?_
          rw [← nI_succ]
          refine r_weak (L' := [some (.ref 100), some (.int (nI n)), some (.int (nI (w + 1))), none, none]) ⟨rfl, rfl, rfl, trivial⟩ ?_
          have hd : dueB I1 w = false := by unfold dueB; rw [decide_eq_false h36, Bool.and_false]
          rw [jdS, hd, if_neg (by decide)]
          exact ih (w + 1) n I1 (by omega) hI hTr em
def jdgN (I : AI) : AI := (jdS (nv (I 100 45)) 0 0 I).1
def jdgV (I : AI) : Int32 := nI (jdS (nv (I 100 45)) 0 0 I).2
theorem c_Mjudge (γ : GE) {b c : Bool} {I : AI} {J : AJ} (hT : I 100 0 = 0) (hI : MWar I) (hL : MLand I) (hTr : MTru I) : Ct γ mX12_judge 1 0 0 [.ref 100] (SS b c) I J (rI (jdgV I) (SS b c) (jdgN I) J) := by
  have ht := told0 hT
  refine ct_of okX12_judge (L := [some (.ref 100), none, none, none, none]) (Nat.le_of_ble_eq_true rfl) rfl ?_
  refine r_run okX12_judge 7 (cs := []) (σ' := (9, [some (.ref 100), some (.int 0), some (.int 0), none, none], [], (SS b c), (upI I 100 0 0), J, 0, 0)) rfl trivial ?_
  simp only [ht]
  show Rj _ _ _ _ _ _ (9, [some (.ref 100), some (.int 0), some (.int 0), none, none], [], (SS b c), I, J, 0, 0)
  obtain ⟨m, hm, em⟩ := hI.1
  have h := lp_judge γ (b := b) (c := c) (J := J) m hm m 0 0 I (by omega) hI hTr em
  rw [nI_0] at h
  rw [jdgV, jdgN, em, nv_nI (by omega)]
  exact h
