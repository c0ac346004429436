/-! ===== StormOffice: feed, end, fault ===== -/
theorem sh_and (x : BitVec 32) (k : Nat) (hk : k ≤ 24) : (x >>> k) &&& 255#32 = (x.sshiftRight k) &&& 255#32 := by
  apply BitVec.eq_of_getLsbD_eq
  intro i hi
  rw [BitVec.getLsbD_and, BitVec.getLsbD_and, BitVec.getLsbD_ushiftRight, BitVec.getLsbD_sshiftRight]
  by_cases h : i < 8
  · rw [decide_eq_false (show ¬ 32 ≤ i by omega), if_pos (show k + i < 32 by omega)]; rfl
  · have : (255#32).getLsbD i = false := by
      have hh : ∀ j, j < 32 → ¬ j < 8 → (255#32).getLsbD j = false := by decide
      exact hh i hi h
    rw [this, Bool.and_false, Bool.and_false]
theorem by_24 (v : Int32) : (v.toUInt32 >>> ((24 : Int32).toUInt32 &&& Int32.toUInt32 31)).toInt32 &&& 255 = (v >>> ((24 : Int32) &&& 31)) &&& 255 := Int32.toBitVec_inj.mp (sh_and v.toBitVec 24 (by decide))
theorem by_16 (v : Int32) : (v.toUInt32 >>> ((16 : Int32).toUInt32 &&& Int32.toUInt32 31)).toInt32 &&& 255 = (v >>> ((16 : Int32) &&& 31)) &&& 255 := Int32.toBitVec_inj.mp (sh_and v.toBitVec 16 (by decide))
theorem by_8 (v : Int32) : (v.toUInt32 >>> ((8 : Int32).toUInt32 &&& Int32.toUInt32 31)).toInt32 &&& 255 = (v >>> ((8 : Int32) &&& 31)) &&& 255 := Int32.toBitVec_inj.mp (sh_and v.toBitVec 8 (by decide))
theorem by_0 (v : Int32) : (v.toUInt32 >>> ((0 : Int32).toUInt32 &&& Int32.toUInt32 31)).toInt32 &&& 255 = (v >>> ((0 : Int32) &&& 31)) &&& 255 := Int32.toBitVec_inj.mp (sh_and v.toBitVec 0 (by decide))
def op4 (I : AI) (k : Nat) (v : Int32) : AI := fun a b => if a = 96 then (if k ≤ b ∧ b < k + 4 then byM v (b - k) else I a b) else if a = 95 then (if b = 4 then nI (k + 4) else I a b) else I a b
theorem op4_eq {I : AI} {k : Nat} {v : Int32} : upI (upI (upI (upI (upI (upI (upI (upI I 96 k (byM v 0)) 95 4 (nI (k + 1))) 96 (k + 1) (byM v 1)) 95 4 (nI (k + 1 + 1))) 96 (k + 1 + 1) (byM v 2)) 95 4 (nI (k + 1 + 1 + 1))) 96 (k + 1 + 1 + 1) (byM v 3)) 95 4 (nI (k + 1 + 1 + 1 + 1)) = op4 I k v := by
  funext a b
  simp only [upI, op4]
  by_cases h : a = 96
  · subst h
    simp only [show ¬ (96 : Nat) = 95 by decide, if_true, if_false]
    by_cases h3 : b = k + 1 + 1 + 1
    · subst h3; rw [if_pos rfl, if_pos (by omega), show k + 1 + 1 + 1 - k = 3 by omega]
    · rw [if_neg h3]
      by_cases h2 : b = k + 1 + 1
      · subst h2; rw [if_pos rfl, if_pos (by omega), show k + 1 + 1 - k = 2 by omega]
      · rw [if_neg h2]
        by_cases h1 : b = k + 1
        · subst h1; rw [if_pos rfl, if_pos (by omega), show k + 1 - k = 1 by omega]
        · rw [if_neg h1]
          by_cases h0 : b = k
          · subst h0; rw [if_pos rfl, if_pos (by omega), Nat.sub_self]
          · rw [if_neg h0, if_neg (by omega)]
  · by_cases h1 : a = 95
    · subst h1
      simp only [show ¬ (95 : Nat) = 96 by decide, if_true, if_false]
      split <;> rfl
    · simp [h, h1]
theorem o_put (γ : GE) {b c : Bool} {I : AI} {J : AJ} (k : Nat) (v : Int32) (hk : k ≤ 796) (ek : I 95 4 = nI k) : Ct γ mX5_put 0 0 0 [.ref 95, .int v] (SS b c) I J (rV (SS b c) (op4 I k v) J) := by
  refine ct_of okX5_put (L := [some (.ref 95), some (.int v), none]) (Nat.le_of_ble_eq_true rfl) rfl ?_
  refine r_run okX5_put 3 (cs := []) (σ' := (4, [some (.ref 95), some (.int v), some (.int 24)], [.int 24], (SS b c), I, J, 0, 0)) rfl trivial ?_
  refine r_ifc okX5_put rfl (fun (h4 : (24 : Int32) < (0 : Int32)) => ?_) (fun (h4 : ¬ (24 : Int32) < (0 : Int32)) => ?_)
  · exact absurd h4 (by decide)
  · refine r_run okX5_put 3 (cs := []) (σ' := (14, [some (.ref 95), some (.int v), some (.int 24)], [.int 800, .int (I 95 4)], (SS b c), I, J, 0, 0)) rfl trivial ?_
    refine r_icmp okX5_put rfl (fun (h14 : (800 : Int32) ≤ (I 95 4)) => ?_) (fun (h14 : ¬ (800 : Int32) ≤ (I 95 4)) => ?_)
    · refine absurd h14 ?_
      first
        | exact (by rw [ek]; exact nI_ge (b := 800) (by omega) (by decide))
        | exact (by show ¬ (800 : Int32) ≤ _; rw [ek]; simp only [← nI_succ]; exact nI_ge (b := 800) (by omega) (by decide))
    · refine r_run okX5_put 19 (cs := [vp_in (I 95 4) 800]) (σ' := (4, [some (.ref 95), some (.int v), some (.int (24 + (-8)))], [.int (24 + (-8))], (SS b c), (upI (upI I 96 ((I 95 4).toNatClampNeg) (((v.toUInt32 >>> ((24 : Int32).toUInt32 &&& Int32.toUInt32 31)).toInt32) &&& 255)) 95 4 ((I 95 4) + 1)), J, 0, 0)) rfl ⟨(by rw [ek]; (try simp only [← nI_succ]); exact vin (by omega) (by decide)), trivial⟩ ?_
      refine r_ifc okX5_put rfl (fun (h4_1 : (24 + (-8)) < (0 : Int32)) => ?_) (fun (h4_1 : ¬ (24 + (-8)) < (0 : Int32)) => ?_)
      · exact absurd h4_1 (by decide)
      · refine r_run okX5_put 3 (cs := []) (σ' := (14, [some (.ref 95), some (.int v), some (.int (24 + (-8)))], [.int 800, .int ((I 95 4) + 1)], (SS b c), (upI (upI I 96 ((I 95 4).toNatClampNeg) (((v.toUInt32 >>> ((24 : Int32).toUInt32 &&& Int32.toUInt32 31)).toInt32) &&& 255)) 95 4 ((I 95 4) + 1)), J, 0, 0)) rfl trivial ?_
        refine r_icmp okX5_put rfl (fun (h14_1 : (800 : Int32) ≤ ((I 95 4) + 1)) => ?_) (fun (h14_1 : ¬ (800 : Int32) ≤ ((I 95 4) + 1)) => ?_)
        · refine absurd h14_1 ?_
          first
            | exact (by rw [ek]; exact nI_ge (b := 800) (by omega) (by decide))
            | exact (by show ¬ (800 : Int32) ≤ _; rw [ek]; simp only [← nI_succ]; exact nI_ge (b := 800) (by omega) (by decide))
        · refine r_run okX5_put 19 (cs := [vp_in ((I 95 4) + 1) 800]) (σ' := (4, [some (.ref 95), some (.int v), some (.int ((24 + (-8)) + (-8)))], [.int ((24 + (-8)) + (-8))], (SS b c), (upI (upI (upI (upI I 96 ((I 95 4).toNatClampNeg) (((v.toUInt32 >>> ((24 : Int32).toUInt32 &&& Int32.toUInt32 31)).toInt32) &&& 255)) 95 4 ((I 95 4) + 1)) 96 (((I 95 4) + 1).toNatClampNeg) (((v.toUInt32 >>> (((24 + (-8)) : Int32).toUInt32 &&& Int32.toUInt32 31)).toInt32) &&& 255)) 95 4 (((I 95 4) + 1) + 1)), J, 0, 0)) rfl ⟨(by rw [ek]; (try simp only [← nI_succ]); exact vin (by omega) (by decide)), trivial⟩ ?_
          refine r_ifc okX5_put rfl (fun (h4_2 : ((24 + (-8)) + (-8)) < (0 : Int32)) => ?_) (fun (h4_2 : ¬ ((24 + (-8)) + (-8)) < (0 : Int32)) => ?_)
          · exact absurd h4_2 (by decide)
          · refine r_run okX5_put 3 (cs := []) (σ' := (14, [some (.ref 95), some (.int v), some (.int ((24 + (-8)) + (-8)))], [.int 800, .int (((I 95 4) + 1) + 1)], (SS b c), (upI (upI (upI (upI I 96 ((I 95 4).toNatClampNeg) (((v.toUInt32 >>> ((24 : Int32).toUInt32 &&& Int32.toUInt32 31)).toInt32) &&& 255)) 95 4 ((I 95 4) + 1)) 96 (((I 95 4) + 1).toNatClampNeg) (((v.toUInt32 >>> (((24 + (-8)) : Int32).toUInt32 &&& Int32.toUInt32 31)).toInt32) &&& 255)) 95 4 (((I 95 4) + 1) + 1)), J, 0, 0)) rfl trivial ?_
            refine r_icmp okX5_put rfl (fun (h14_2 : (800 : Int32) ≤ (((I 95 4) + 1) + 1)) => ?_) (fun (h14_2 : ¬ (800 : Int32) ≤ (((I 95 4) + 1) + 1)) => ?_)
            · refine absurd h14_2 ?_
              first
                | exact (by rw [ek]; exact nI_ge (b := 800) (by omega) (by decide))
                | exact (by show ¬ (800 : Int32) ≤ _; rw [ek]; simp only [← nI_succ]; exact nI_ge (b := 800) (by omega) (by decide))
            · refine r_run okX5_put 19 (cs := [vp_in (((I 95 4) + 1) + 1) 800]) (σ' := (4, [some (.ref 95), some (.int v), some (.int (((24 + (-8)) + (-8)) + (-8)))], [.int (((24 + (-8)) + (-8)) + (-8))], (SS b c), (upI (upI (upI (upI (upI (upI I 96 ((I 95 4).toNatClampNeg) (((v.toUInt32 >>> ((24 : Int32).toUInt32 &&& Int32.toUInt32 31)).toInt32) &&& 255)) 95 4 ((I 95 4) + 1)) 96 (((I 95 4) + 1).toNatClampNeg) (((v.toUInt32 >>> (((24 + (-8)) : Int32).toUInt32 &&& Int32.toUInt32 31)).toInt32) &&& 255)) 95 4 (((I 95 4) + 1) + 1)) 96 ((((I 95 4) + 1) + 1).toNatClampNeg) (((v.toUInt32 >>> ((((24 + (-8)) + (-8)) : Int32).toUInt32 &&& Int32.toUInt32 31)).toInt32) &&& 255)) 95 4 ((((I 95 4) + 1) + 1) + 1)), J, 0, 0)) rfl ⟨(by rw [ek]; (try simp only [← nI_succ]); exact vin (by omega) (by decide)), trivial⟩ ?_
              refine r_ifc okX5_put rfl (fun (h4_3 : (((24 + (-8)) + (-8)) + (-8)) < (0 : Int32)) => ?_) (fun (h4_3 : ¬ (((24 + (-8)) + (-8)) + (-8)) < (0 : Int32)) => ?_)
              · exact absurd h4_3 (by decide)
              · refine r_run okX5_put 3 (cs := []) (σ' := (14, [some (.ref 95), some (.int v), some (.int (((24 + (-8)) + (-8)) + (-8)))], [.int 800, .int ((((I 95 4) + 1) + 1) + 1)], (SS b c), (upI (upI (upI (upI (upI (upI I 96 ((I 95 4).toNatClampNeg) (((v.toUInt32 >>> ((24 : Int32).toUInt32 &&& Int32.toUInt32 31)).toInt32) &&& 255)) 95 4 ((I 95 4) + 1)) 96 (((I 95 4) + 1).toNatClampNeg) (((v.toUInt32 >>> (((24 + (-8)) : Int32).toUInt32 &&& Int32.toUInt32 31)).toInt32) &&& 255)) 95 4 (((I 95 4) + 1) + 1)) 96 ((((I 95 4) + 1) + 1).toNatClampNeg) (((v.toUInt32 >>> ((((24 + (-8)) + (-8)) : Int32).toUInt32 &&& Int32.toUInt32 31)).toInt32) &&& 255)) 95 4 ((((I 95 4) + 1) + 1) + 1)), J, 0, 0)) rfl trivial ?_
                refine r_icmp okX5_put rfl (fun (h14_3 : (800 : Int32) ≤ ((((I 95 4) + 1) + 1) + 1)) => ?_) (fun (h14_3 : ¬ (800 : Int32) ≤ ((((I 95 4) + 1) + 1) + 1)) => ?_)
                · refine absurd h14_3 ?_
                  first
                    | exact (by rw [ek]; exact nI_ge (b := 800) (by omega) (by decide))
                    | exact (by show ¬ (800 : Int32) ≤ _; rw [ek]; simp only [← nI_succ]; exact nI_ge (b := 800) (by omega) (by decide))
                · refine r_run okX5_put 19 (cs := [vp_in ((((I 95 4) + 1) + 1) + 1) 800]) (σ' := (4, [some (.ref 95), some (.int v), some (.int ((((24 + (-8)) + (-8)) + (-8)) + (-8)))], [.int ((((24 + (-8)) + (-8)) + (-8)) + (-8))], (SS b c), (upI (upI (upI (upI (upI (upI (upI (upI I 96 ((I 95 4).toNatClampNeg) (((v.toUInt32 >>> ((24 : Int32).toUInt32 &&& Int32.toUInt32 31)).toInt32) &&& 255)) 95 4 ((I 95 4) + 1)) 96 (((I 95 4) + 1).toNatClampNeg) (((v.toUInt32 >>> (((24 + (-8)) : Int32).toUInt32 &&& Int32.toUInt32 31)).toInt32) &&& 255)) 95 4 (((I 95 4) + 1) + 1)) 96 ((((I 95 4) + 1) + 1).toNatClampNeg) (((v.toUInt32 >>> ((((24 + (-8)) + (-8)) : Int32).toUInt32 &&& Int32.toUInt32 31)).toInt32) &&& 255)) 95 4 ((((I 95 4) + 1) + 1) + 1)) 96 (((((I 95 4) + 1) + 1) + 1).toNatClampNeg) (((v.toUInt32 >>> (((((24 + (-8)) + (-8)) + (-8)) : Int32).toUInt32 &&& Int32.toUInt32 31)).toInt32) &&& 255)) 95 4 (((((I 95 4) + 1) + 1) + 1) + 1)), J, 0, 0)) rfl ⟨(by rw [ek]; (try simp only [← nI_succ]); exact vin (by omega) (by decide)), trivial⟩ ?_
                  refine r_ifc okX5_put rfl (fun (h4_4 : ((((24 + (-8)) + (-8)) + (-8)) + (-8)) < (0 : Int32)) => ?_) (fun (h4_4 : ¬ ((((24 + (-8)) + (-8)) + (-8)) + (-8)) < (0 : Int32)) => ?_)
                  · refine r_vret okX5_put rfl rfl (Nat.le_refl _) (Nat.le_refl _) ?_
                    refine ⟨rfl, rfl, ?_, rfl⟩
                    simp only [show ((24 : Int32) + -8) = 16 from rfl, show ((16 : Int32) + -8) = 8 from rfl, show ((8 : Int32) + -8) = 0 from rfl, by_24, by_16, by_8, by_0]
                    rw [ek]
                    simp only [← nI_succ]
                    rw [nI_clamp (n := k) (by omega), nI_clamp (n := k + 1) (by omega), nI_clamp (n := k + 1 + 1) (by omega), nI_clamp (n := k + 1 + 1 + 1) (by omega)]
                    exact op4_eq.symm
                  · exact absurd h4_4 (by decide)
theorem o_rlen (γ : GE) {b c : Bool} {I : AI} {J : AJ} : Ct γ mX5_length 0 0 0 [.ref 95] (SS b c) I J (rI (I 95 4) (SS b c) I J) := by
  refine ct_of okX5_length (L := [some (.ref 95)]) (Nat.le_of_ble_eq_true rfl) rfl ?_
  refine r_run okX5_length 2 (cs := []) (σ' := (4, [some (.ref 95)], [.int (I 95 4)], (SS b c), I, J, 0, 0)) rfl trivial ?_
  refine r_iret okX5_length rfl rfl rfl (Nat.le_refl _) (Nat.le_refl _) ?_
  exact ⟨rfl, rfl, rfl, rfl⟩
theorem o_wrong (γ : GE) {b c : Bool} {I : AI} {J : AJ} : Ct γ mX5_wrong 0 0 0 [.ref 95] (SS b c) I J (rI (I 95 8) (SS b c) I J) := by
  refine ct_of okX5_wrong (L := [some (.ref 95)]) (Nat.le_of_ble_eq_true rfl) rfl ?_
  refine r_run okX5_wrong 2 (cs := []) (σ' := (4, [some (.ref 95)], [.int (I 95 8)], (SS b c), I, J, 0, 0)) rfl trivial ?_
  refine r_iret okX5_wrong rfl rfl rfl (Nat.le_refl _) (Nat.le_refl _) ?_
  exact ⟨rfl, rfl, rfl, rfl⟩
theorem o_wrongPlace (γ : GE) {b c : Bool} {I : AI} {J : AJ} : Ct γ mX5_wrongPlace 0 0 0 [.ref 95] (SS b c) I J (rI (I 95 9) (SS b c) I J) := by
  refine ct_of okX5_wrongPlace (L := [some (.ref 95)]) (Nat.le_of_ble_eq_true rfl) rfl ?_
  refine r_run okX5_wrongPlace 2 (cs := []) (σ' := (4, [some (.ref 95)], [.int (I 95 9)], (SS b c), I, J, 0, 0)) rfl trivial ?_
  refine r_iret okX5_wrongPlace rfl rfl rfl (Nat.le_refl _) (Nat.le_refl _) ?_
  exact ⟨rfl, rfl, rfl, rfl⟩
theorem o_hasRoom (γ : GE) {b c : Bool} {I : AI} {J : AJ} {k : Nat} (hk : k < 801) (ek : I 95 4 = nI k) : Ct γ mX5_hasRoom 0 0 0 [.ref 95] (SS b c) I J (rI (bi (decide (nI k ≤ 780))) (SS b c) I J) := by
  refine ct_of okX5_hasRoom (L := [some (.ref 95)]) (Nat.le_of_ble_eq_true rfl) rfl ?_
  refine r_run okX5_hasRoom 5 (cs := []) (σ' := (10, [some (.ref 95)], [.int 800, .int ((I 95 4) + 20)], (SS b c), I, J, 0, 0)) rfl trivial ?_
  refine r_icmp okX5_hasRoom rfl (fun (h10 : (800 : Int32) < ((I 95 4) + 20)) => ?_) (fun (h10 : ¬ (800 : Int32) < ((I 95 4) + 20)) => ?_)
  · refine r_run okX5_hasRoom 1 (cs := []) (σ' := (18, [some (.ref 95)], [.int 0], (SS b c), I, J, 0, 0)) rfl trivial ?_
    refine r_iret okX5_hasRoom rfl rfl (by decide +kernel) (Nat.le_refl _) (Nat.le_refl _) ?_
    have q : decide (nI k ≤ 780) = false := by
      rw [ek, show nI k + 20 = nI (k + 20) from nI_ad k 20] at h10
      exact decide_eq_false fun z => absurd (nI_le (b := 800) (show k + 20 ≤ 800 by have := Nat.le_of_not_lt fun q => absurd z (nI_ge (a := 780) q (by omega)); omega) (by decide)) (Int32.not_le.mpr h10)
    exact ⟨by rw [q]; rfl, rfl, rfl, rfl⟩
  · refine r_run okX5_hasRoom 2 (cs := []) (σ' := (18, [some (.ref 95)], [.int 1], (SS b c), I, J, 0, 0)) rfl trivial ?_
    refine r_iret okX5_hasRoom rfl rfl (by decide +kernel) (Nat.le_refl _) (Nat.le_refl _) ?_
    have q : decide (nI k ≤ 780) = true := by
      rw [ek, show nI k + 20 = nI (k + 20) from nI_ad k 20] at h10
      exact decide_eq_true (nI_le (b := 780) (by have := Nat.le_of_not_lt fun q => absurd (Int32.not_lt.mp h10) (nI_ge (a := 800) (b := k + 20) q (by omega)); omega) (by decide))
    exact ⟨by rw [q]; rfl, rfl, rfl, rfl⟩
theorem o_cut (γ : GE) {b c : Bool} {I : AI} {J : AJ} (n : Int32) : Ct γ mX5_cut 0 0 0 [.ref 95, .int n] (SS b c) I J (rI (bi (inB n 0 (I 95 4))) (SS b c) (if inB n 0 (I 95 4) then upI I 95 4 n else I) J) := by
  refine ct_of okX5_cut (L := [some (.ref 95), some (.int n)]) (Nat.le_of_ble_eq_true rfl) rfl ?_
  refine r_run okX5_cut 1 (cs := []) (σ' := (1, [some (.ref 95), some (.int n)], [.int n], (SS b c), I, J, 0, 0)) rfl trivial ?_
  refine r_ifc okX5_cut rfl (fun (h1 : n < (0 : Int32)) => ?_) (fun (h1 : ¬ n < (0 : Int32)) => ?_)
  · refine r_run okX5_cut 1 (cs := []) (σ' := (13, [some (.ref 95), some (.int n)], [.int 0], (SS b c), I, J, 0, 0)) rfl trivial ?_
    refine r_iret okX5_cut rfl rfl (by decide +kernel) (Nat.le_refl _) (Nat.le_refl _) ?_
    have q : inB n 0 (I 95 4) = false := by unfold inB; exact decide_eq_false fun z => absurd h1 (Int32.not_lt.mpr z.1)
    exact ⟨by rw [q]; rfl, rfl, by rw [q]; rfl, rfl⟩
  · refine r_run okX5_cut 3 (cs := []) (σ' := (9, [some (.ref 95), some (.int n)], [.int (I 95 4), .int n], (SS b c), I, J, 0, 0)) rfl trivial ?_
    refine r_icmp okX5_cut rfl (fun (h9 : n ≤ (I 95 4)) => ?_) (fun (h9 : ¬ n ≤ (I 95 4)) => ?_)
    · refine r_run okX5_cut 4 (cs := []) (σ' := (20, [some (.ref 95), some (.int n)], [.int 1], (SS b c), (upI I 95 4 n), J, 0, 0)) rfl trivial ?_
      refine r_iret okX5_cut rfl rfl (by decide +kernel) (Nat.le_refl _) (Nat.le_refl _) ?_
      have q : inB n 0 (I 95 4) = true := inB_t.mpr ⟨Int32.not_lt.mp h1, h9⟩
      exact ⟨by rw [q]; rfl, rfl, by rw [q]; rfl, rfl⟩
    · refine r_run okX5_cut 1 (cs := []) (σ' := (13, [some (.ref 95), some (.int n)], [.int 0], (SS b c), I, J, 0, 0)) rfl trivial ?_
      refine r_iret okX5_cut rfl rfl (by decide +kernel) (Nat.le_refl _) (Nat.le_refl _) ?_
      have q : inB n 0 (I 95 4) = false := by unfold inB; exact decide_eq_false fun z => absurd z.2 h9
      exact ⟨by rw [q]; rfl, rfl, by rw [q]; rfl, rfl⟩
theorem o_end (γ : GE) {b c : Bool} {I : AI} {J : AJ} (hA : OTap I) (n : Int32) : Ct γ mX11_end 1 0 0 [.ref 0, .int n] (SS b c) I J (rI (bi (endB I n)) (SS b c) (if endB I n then upI I 95 4 n else I) J) := by
  refine ct_of okX11_end (L := [some (.ref 0), some (.int n)]) (Nat.le_of_ble_eq_true rfl) rfl ?_
  refine r_run okX11_end 3 (cs := []) (σ' := (5, [some (.ref 0), some (.int n)], [.int n, .ref 95], (SS b c), I, J, 0, 0)) rfl trivial ?_
  refine r_callV okX11_end okX5_cut [.int n] [] 95 rfl rfl rfl kkX5_cut rfl rfl (by decide) rfl rfl rfl (by decide) ⟨Nat.le_refl _, Nat.le_refl _⟩ (Nat.le_of_ble_eq_true rfl) (o_cut γ n) (fun v1 S1 I1 J1 hp => ?_)
  obtain ⟨rfl, rfl, rfl, rfl⟩ := hp
  show Rj _ _ _ _ _ _ (8, [some (.ref 0), some (.int n)], [.int (bi (inB n 0 (I 95 4)))], (SS b c), (if inB n 0 (I 95 4) then upI I 95 4 n else I), J, 0, 0)
  refine r_iret okX11_end rfl rfl (nar_b (bi_bz _)) (Nat.le_refl _) (Nat.le_refl _) ?_
  rw [hA.1]
  exact ⟨rfl, rfl, rfl, rfl⟩
theorem lk_out {v : Int32} (h0 : ¬ v = 0) (h1 : ¬ v = 1) {p q d : Int} : lookupswitch.offset #[((0 : Int), p), (1, q)].toList d v.toInt = d := by
  show lookupswitch.offset [((0 : Int), p), (1, q)] d v.toInt = d
  rw [lookupswitch.offset_cons, lookupswitch.offset_cons, lookupswitch.offset_nil, if_neg (fun z => h0 (Int32.toInt_inj.mp z.symm)), if_neg (fun z => h1 (Int32.toInt_inj.mp z.symm))]
theorem o_fault0 (γ : GE) {b c : Bool} {I : AI} {J : AJ} (hA : OTap I) : Ct γ mX11_fault 1 0 0 [.ref 0, .int 0] (SS b c) I J (rI (fauV I 0) (SS b c) I J) := by
  refine ct_of okX11_fault (L := [some (.ref 0), some (.int 0)]) (Nat.le_of_ble_eq_true rfl) rfl ?_
  refine r_run okX11_fault 1 (cs := []) (σ' := (1, [some (.ref 0), some (.int 0)], [.int 0], (SS b c), I, J, 0, 0)) rfl trivial ?_
  refine r_look okX11_fault rfl (by decide) (off := 27) rfl (tgt := 28) rfl ?_
  show Rj _ _ _ _ _ _ (28, [some (.ref 0), some (.int 0)], [], (SS b c), I, J, 0, 0)
  refine r_run okX11_fault 2 (cs := []) (σ' := (32, [some (.ref 0), some (.int 0)], [.ref 95], (SS b c), I, J, 0, 0)) rfl trivial ?_
  refine r_callV okX11_fault okX5_wrong [] [] 95 rfl rfl rfl kkX5_wrong rfl rfl (by decide) rfl rfl rfl (by decide) ⟨Nat.le_refl _, Nat.le_refl _⟩ (Nat.le_of_ble_eq_true rfl) (o_wrong γ) (fun v1 S1 I1 J1 hp => ?_)
  obtain ⟨rfl, rfl, rfl, rfl⟩ := hp
  show Rj _ _ _ _ _ _ (35, [some (.ref 0), some (.int 0)], [.int (I 95 8)], (SS b c), I, J, 0, 0)
  refine r_iret okX11_fault rfl rfl rfl (Nat.le_refl _) (Nat.le_refl _) ?_
  exact ⟨by rw [hA.2.2.1]; rfl, rfl, rfl, rfl⟩
theorem o_fault1 (γ : GE) {b c : Bool} {I : AI} {J : AJ} (hA : OTap I) : Ct γ mX11_fault 1 0 0 [.ref 0, .int 1] (SS b c) I J (rI (fauV I 1) (SS b c) I J) := by
  refine ct_of okX11_fault (L := [some (.ref 0), some (.int 1)]) (Nat.le_of_ble_eq_true rfl) rfl ?_
  refine r_run okX11_fault 1 (cs := []) (σ' := (1, [some (.ref 0), some (.int 1)], [.int 1], (SS b c), I, J, 0, 0)) rfl trivial ?_
  refine r_look okX11_fault rfl (by decide) (off := 35) rfl (tgt := 36) rfl ?_
  show Rj _ _ _ _ _ _ (36, [some (.ref 0), some (.int 1)], [], (SS b c), I, J, 0, 0)
  refine r_run okX11_fault 2 (cs := []) (σ' := (40, [some (.ref 0), some (.int 1)], [.ref 95], (SS b c), I, J, 0, 0)) rfl trivial ?_
  refine r_callV okX11_fault okX5_wrongPlace [] [] 95 rfl rfl rfl kkX5_wrongPlace rfl rfl (by decide) rfl rfl rfl (by decide) ⟨Nat.le_refl _, Nat.le_refl _⟩ (Nat.le_of_ble_eq_true rfl) (o_wrongPlace γ) (fun v1 S1 I1 J1 hp => ?_)
  obtain ⟨rfl, rfl, rfl, rfl⟩ := hp
  show Rj _ _ _ _ _ _ (43, [some (.ref 0), some (.int 1)], [.int (I 95 9)], (SS b c), I, J, 0, 0)
  refine r_iret okX11_fault rfl rfl rfl (Nat.le_refl _) (Nat.le_refl _) ?_
  exact ⟨by rw [hA.2.2.2]; rfl, rfl, rfl, rfl⟩
theorem o_faulto (γ : GE) {b c : Bool} {I : AI} {J : AJ} (hA : OTap I) (v : Int32) (h0 : ¬ v = 0) (h1 : ¬ v = 1) : Ct γ mX11_fault 1 0 0 [.ref 0, .int v] (SS b c) I J (rI (fauV I v) (SS b c) I J) := by
  refine ct_of okX11_fault (L := [some (.ref 0), some (.int v)]) (Nat.le_of_ble_eq_true rfl) rfl ?_
  refine r_run okX11_fault 1 (cs := []) (σ' := (1, [some (.ref 0), some (.int v)], [.int v], (SS b c), I, J, 0, 0)) rfl trivial ?_
  refine r_look okX11_fault rfl (by decide) (off := 43) (lk_out h0 h1) (tgt := 44) rfl ?_
  show Rj _ _ _ _ _ _ (44, [some (.ref 0), some (.int v)], [], (SS b c), I, J, 0, 0)
  refine r_run okX11_fault 1 (cs := []) (σ' := (45, [some (.ref 0), some (.int v)], [.int (-1)], (SS b c), I, J, 0, 0)) rfl trivial ?_
  refine r_iret okX11_fault rfl rfl rfl (Nat.le_refl _) (Nat.le_refl _) ?_
  exact ⟨by rw [fauV, if_neg h0, if_neg h1], rfl, rfl, rfl⟩
theorem o_fault (γ : GE) {b c : Bool} {I : AI} {J : AJ} (hA : OTap I) (v : Int32) : Ct γ mX11_fault 1 0 0 [.ref 0, .int v] (SS b c) I J (rI (fauV I v) (SS b c) I J) := by
  by_cases h0 : v = 0
  · subst h0; exact o_fault0 γ hA
  by_cases h1 : v = 1
  · subst h1; exact o_fault1 γ hA
  exact o_faulto γ hA v h0 h1
theorem op4_t {I : AI} {k : Nat} {v : Int32} : op4 I k v 95 4 = nI (k + 4) := by simp [op4]
def feeO (I : AI) (p q r s t : Int32) : AI := if feeB I then op4 (op4 (op4 (op4 (op4 I (nv (I 100 23)) p) (nv (I 100 23) + 4) q) (nv (I 100 23) + 8) r) (nv (I 100 23) + 12) s) (nv (I 100 23) + 16) t else I
theorem o_feed (γ : GE) {b c : Bool} {I : AI} {J : AJ} (hA : OTap I) (hI : MTape I) (p q r s t : Int32) : Ct γ mX11_feed 1 0 0 [.ref 0, .int p, .int q, .int r, .int s, .int t] (SS b c) I J (rI (feeV I) (SS b c) (feeO I p q r s t) J) := by
  obtain ⟨k, hk0, ekr⟩ := hI.1
  have ek : I 95 4 = nI k := hA.1.trans ekr
  refine ct_of okX11_feed (L := [some (.ref 0), some (.int p), some (.int q), some (.int r), some (.int s), some (.int t)]) (Nat.le_of_ble_eq_true rfl) rfl ?_
  refine r_run okX11_feed 2 (cs := []) (σ' := (4, [some (.ref 0), some (.int p), some (.int q), some (.int r), some (.int s), some (.int t)], [.ref 95], (SS b c), I, J, 0, 0)) rfl trivial ?_
  refine r_callV okX11_feed okX5_hasRoom [] [] 95 rfl rfl rfl kkX5_hasRoom rfl rfl (by decide) rfl rfl rfl (by decide) ⟨Nat.le_refl _, Nat.le_refl _⟩ (Nat.le_of_ble_eq_true rfl) (o_hasRoom γ hk0 ek) (fun v1 S1 I1 J1 hp => ?_)
  obtain ⟨rfl, rfl, rfl, rfl⟩ := hp
  show Rj _ _ _ _ _ _ (7, [some (.ref 0), some (.int p), some (.int q), some (.int r), some (.int s), some (.int t)], [.int (bi (decide (nI k ≤ 780)))], (SS b c), I, J, 0, 0)
  refine r_ifc okX11_feed rfl (fun (h7 : ¬ (bi (decide (nI k ≤ 780))) = (0 : Int32)) => ?_) (fun h70 => ?_)
  · have hb := bi_n0.mp h7
    have hk : k ≤ 780 := Nat.le_of_not_lt fun q => absurd (of_decide_eq_true hb) (nI_ge (b := k) (a := 780) q (by omega))
    refine r_run okX11_feed 3 (cs := []) (σ' := (17, [some (.ref 0), some (.int p), some (.int q), some (.int r), some (.int s), some (.int t)], [.int p, .ref 95], (SS b c), I, J, 0, 0)) rfl trivial ?_
    refine r_callV okX11_feed okX5_put [.int p] [] 95 rfl rfl rfl kkX5_put rfl rfl (by decide) rfl rfl rfl (by decide) ⟨Nat.le_refl _, Nat.le_refl _⟩ (Nat.le_of_ble_eq_true rfl) (o_put γ k p (by omega) ek) (fun v1 S1 I1 J1 hp => ?_)
    obtain ⟨rfl, rfl, rfl, rfl⟩ := hp
    show Rj _ _ _ _ _ _ (20, [some (.ref 0), some (.int p), some (.int q), some (.int r), some (.int s), some (.int t)], [], (SS b c), (op4 I k p), J, 0, 0)
    refine r_run okX11_feed 3 (cs := []) (σ' := (25, [some (.ref 0), some (.int p), some (.int q), some (.int r), some (.int s), some (.int t)], [.int q, .ref 95], (SS b c), (op4 I k p), J, 0, 0)) rfl trivial ?_
    refine r_callV okX11_feed okX5_put [.int q] [] 95 rfl rfl rfl kkX5_put rfl rfl (by decide) rfl rfl rfl (by decide) ⟨Nat.le_refl _, Nat.le_refl _⟩ (Nat.le_of_ble_eq_true rfl) (o_put γ (k + 4) q (by omega) op4_t) (fun v1 S1 I1 J1 hp => ?_)
    obtain ⟨rfl, rfl, rfl, rfl⟩ := hp
    show Rj _ _ _ _ _ _ (28, [some (.ref 0), some (.int p), some (.int q), some (.int r), some (.int s), some (.int t)], [], (SS b c), (op4 (op4 I k p) (k + 4) q), J, 0, 0)
    refine r_run okX11_feed 3 (cs := []) (σ' := (33, [some (.ref 0), some (.int p), some (.int q), some (.int r), some (.int s), some (.int t)], [.int r, .ref 95], (SS b c), (op4 (op4 I k p) (k + 4) q), J, 0, 0)) rfl trivial ?_
    refine r_callV okX11_feed okX5_put [.int r] [] 95 rfl rfl rfl kkX5_put rfl rfl (by decide) rfl rfl rfl (by decide) ⟨Nat.le_refl _, Nat.le_refl _⟩ (Nat.le_of_ble_eq_true rfl) (o_put γ (k + 8) r (by omega) op4_t) (fun v1 S1 I1 J1 hp => ?_)
    obtain ⟨rfl, rfl, rfl, rfl⟩ := hp
    show Rj _ _ _ _ _ _ (36, [some (.ref 0), some (.int p), some (.int q), some (.int r), some (.int s), some (.int t)], [], (SS b c), (op4 (op4 (op4 I k p) (k + 4) q) (k + 8) r), J, 0, 0)
    refine r_run okX11_feed 3 (cs := []) (σ' := (42, [some (.ref 0), some (.int p), some (.int q), some (.int r), some (.int s), some (.int t)], [.int s, .ref 95], (SS b c), (op4 (op4 (op4 I k p) (k + 4) q) (k + 8) r), J, 0, 0)) rfl trivial ?_
    refine r_callV okX11_feed okX5_put [.int s] [] 95 rfl rfl rfl kkX5_put rfl rfl (by decide) rfl rfl rfl (by decide) ⟨Nat.le_refl _, Nat.le_refl _⟩ (Nat.le_of_ble_eq_true rfl) (o_put γ (k + 12) s (by omega) op4_t) (fun v1 S1 I1 J1 hp => ?_)
    obtain ⟨rfl, rfl, rfl, rfl⟩ := hp
    show Rj _ _ _ _ _ _ (45, [some (.ref 0), some (.int p), some (.int q), some (.int r), some (.int s), some (.int t)], [], (SS b c), (op4 (op4 (op4 (op4 I k p) (k + 4) q) (k + 8) r) (k + 12) s), J, 0, 0)
    refine r_run okX11_feed 3 (cs := []) (σ' := (51, [some (.ref 0), some (.int p), some (.int q), some (.int r), some (.int s), some (.int t)], [.int t, .ref 95], (SS b c), (op4 (op4 (op4 (op4 I k p) (k + 4) q) (k + 8) r) (k + 12) s), J, 0, 0)) rfl trivial ?_
    refine r_callV okX11_feed okX5_put [.int t] [] 95 rfl rfl rfl kkX5_put rfl rfl (by decide) rfl rfl rfl (by decide) ⟨Nat.le_refl _, Nat.le_refl _⟩ (Nat.le_of_ble_eq_true rfl) (o_put γ (k + 16) t (by omega) op4_t) (fun v1 S1 I1 J1 hp => ?_)
    obtain ⟨rfl, rfl, rfl, rfl⟩ := hp
    show Rj _ _ _ _ _ _ (54, [some (.ref 0), some (.int p), some (.int q), some (.int r), some (.int s), some (.int t)], [], (SS b c), (op4 (op4 (op4 (op4 (op4 I k p) (k + 4) q) (k + 8) r) (k + 12) s) (k + 16) t), J, 0, 0)
    refine r_run okX11_feed 2 (cs := []) (σ' := (58, [some (.ref 0), some (.int p), some (.int q), some (.int r), some (.int s), some (.int t)], [.ref 95], (SS b c), (op4 (op4 (op4 (op4 (op4 I k p) (k + 4) q) (k + 8) r) (k + 12) s) (k + 16) t), J, 0, 0)) rfl trivial ?_
    refine r_callV okX11_feed okX5_length [] [] 95 rfl rfl rfl kkX5_length rfl rfl (by decide) rfl rfl rfl (by decide) ⟨Nat.le_refl _, Nat.le_refl _⟩ (Nat.le_of_ble_eq_true rfl) (o_rlen γ) (fun v1 S1 I1 J1 hp => ?_)
    obtain ⟨rfl, rfl, rfl, rfl⟩ := hp
    show Rj _ _ _ _ _ _ (61, [some (.ref 0), some (.int p), some (.int q), some (.int r), some (.int s), some (.int t)], [.int ((op4 (op4 (op4 (op4 (op4 I k p) (k + 4) q) (k + 8) r) (k + 12) s) (k + 16) t) 95 4)], (SS b c), (op4 (op4 (op4 (op4 (op4 I k p) (k + 4) q) (k + 8) r) (k + 12) s) (k + 16) t), J, 0, 0)
    refine r_iret okX11_feed rfl rfl rfl (Nat.le_refl _) (Nat.le_refl _) ?_
    refine ⟨?_, rfl, ?_, rfl⟩
    · rw [feeV, feeB, ekr, hb, if_pos rfl, op4_t, nv_nI (by omega)]
    · rw [feeO, feeB, ekr, hb, if_pos rfl, nv_nI (by omega)]
  · have h7 : (bi (decide (nI k ≤ 780))) = (0 : Int32) := Classical.not_not.mp h70
    have hb := bi_0.mp h7
    refine r_run okX11_feed 1 (cs := []) (σ' := (11, [some (.ref 0), some (.int p), some (.int q), some (.int r), some (.int s), some (.int t)], [.int (-1)], (SS b c), I, J, 0, 0)) rfl trivial ?_
    refine r_iret okX11_feed rfl rfl rfl (Nat.le_refl _) (Nat.le_refl _) ?_
    exact ⟨by rw [feeV, feeB, ekr, hb]; rfl, rfl, by rw [feeO, feeB, ekr, hb]; rfl, rfl⟩
