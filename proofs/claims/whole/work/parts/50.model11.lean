/-! ===== the reference: isIn0, ones, peopleOf, pathsIn ===== -/
def in0 (I : AI) (z : Int32) (x : Nat) : Bool := decide (I 102 x = 0) || decide ((z >>> (I 101 x &&& 31)) &&& 1 = 1)
theorem c_isIn0 (γ : GE) {b c : Bool} {I : AI} {J : AJ} (x : Nat) (z : Int32) (hx : x < 96) : Ct γ mX12_isIn0 0 0 0 [.ref 100, .int (nI x), .int z] (SS b c) I J (rI (bi (in0 I z x)) (SS b c) I J) := by
  have cx : (nI x).toNatClampNeg = x := nI_clamp (by omega)
  refine ct_of okX12_isIn0 (L := [some (.ref 100), some (.int (nI x)), some (.int z)]) (Nat.le_of_ble_eq_true rfl) rfl ?_
  refine r_run okX12_isIn0 4 (cs := [vp_in (nI x) 96]) (σ' := (6, [some (.ref 100), some (.int (nI x)), some (.int z)], [.int (I 102 ((nI x).toNatClampNeg))], (SS b c), I, J, 0, 0)) rfl ⟨(vin hx (by decide)), trivial⟩ ?_
  simp only [cx]
  show Rj _ _ _ _ _ _ (6, [some (.ref 100), some (.int (nI x)), some (.int z)], [.int (I 102 x)], (SS b c), I, J, 0, 0)
  refine r_ifc okX12_isIn0 rfl (fun (h6 : (I 102 x) = (0 : Int32)) => ?_) (fun (h6 : ¬ (I 102 x) = (0 : Int32)) => ?_)
  · refine r_run okX12_isIn0 2 (cs := []) (σ' := (28, [some (.ref 100), some (.int (nI x)), some (.int z)], [.int 1], (SS b c), I, J, 0, 0)) rfl trivial ?_
    refine r_iret okX12_isIn0 rfl rfl (by decide +kernel) (Nat.le_refl _) (Nat.le_refl _) ?_
    exact ⟨by simp [in0, bi_t, bi_f, *], rfl, rfl, rfl⟩
  · refine r_run okX12_isIn0 9 (cs := [vp_in (nI x) 96]) (σ' := (20, [some (.ref 100), some (.int (nI x)), some (.int z)], [.int 1, .int ((z >>> ((I 101 ((nI x).toNatClampNeg)) &&& 31)) &&& 1)], (SS b c), I, J, 0, 0)) rfl ⟨(vin hx (by decide)), trivial⟩ ?_
    simp only [cx]
    show Rj _ _ _ _ _ _ (20, [some (.ref 100), some (.int (nI x)), some (.int z)], [.int 1, .int ((z >>> ((I 101 x) &&& 31)) &&& 1)], (SS b c), I, J, 0, 0)
    refine r_icmp okX12_isIn0 rfl (fun (h20 : ¬ ((z >>> ((I 101 x) &&& 31)) &&& 1) = (1 : Int32)) => ?_) (fun h200 => ?_)
    · refine r_run okX12_isIn0 1 (cs := []) (σ' := (28, [some (.ref 100), some (.int (nI x)), some (.int z)], [.int 0], (SS b c), I, J, 0, 0)) rfl trivial ?_
      refine r_iret okX12_isIn0 rfl rfl (by decide +kernel) (Nat.le_refl _) (Nat.le_refl _) ?_
      exact ⟨by simp [in0, bi_t, bi_f, *], rfl, rfl, rfl⟩
    · have h20 : ((z >>> ((I 101 x) &&& 31)) &&& 1) = (1 : Int32) := Classical.not_not.mp h200
      refine r_run okX12_isIn0 2 (cs := []) (σ' := (28, [some (.ref 100), some (.int (nI x)), some (.int z)], [.int 1], (SS b c), I, J, 0, 0)) rfl trivial ?_
      refine r_iret okX12_isIn0 rfl rfl (by decide +kernel) (Nat.le_refl _) (Nat.le_refl _) ?_
      exact ⟨by simp [in0, bi_t, bi_f, *], rfl, rfl, rfl⟩
def popN (s : Nat) : Nat := cnt (fun i => s.testBit i) 8
theorem pop_s : ∀ s, s < 256 → 0 < s → nv (nI s &&& (nI s - 1)) < s ∧ nI s &&& (nI s - 1) = nI (nv (nI s &&& (nI s - 1))) ∧ popN s = popN (nv (nI s &&& (nI s - 1))) + 1 := by decide +kernel
theorem lp_ones (γ : GE) {b c : Bool} {I : AI} {J : AJ} (z : Nat) : ∀ (s : Nat), s < 256 → ∀ n, Rj γ mX12_ones 0 0 0 (rI (nI (n + popN s)) (SS b c) I J) (4, [some (.ref 100), some (.int (nI z)), some (.int (nI n)), some (.int (nI s))], [], (SS b c), I, J, 0, 0) := by
  intro s
  induction s using Nat.strongRecOn with
  | _ s ih =>
    intro hs n
    refine r_run okX12_ones 1 (cs := []) (σ' := (5, [some (.ref 100), some (.int (nI z)), some (.int (nI n)), some (.int (nI s))], [.int (nI s)], (SS b c), I, J, 0, 0)) rfl trivial ?_
    refine r_ifc okX12_ones rfl (fun (h5 : (nI s) = (0 : Int32)) => ?_) (fun (h5 : ¬ (nI s) = (0 : Int32)) => ?_)
    · have e0 : s = 0 := nI_inj (by omega) (by decide) (h5.trans nI_0.symm)
      refine r_run okX12_ones 1 (cs := []) (σ' := (22, [some (.ref 100), some (.int (nI z)), some (.int (nI n)), some (.int (nI s))], [.int (nI n)], (SS b c), I, J, 0, 0)) rfl trivial ?_
      refine r_iret okX12_ones rfl rfl rfl (Nat.le_refl _) (Nat.le_refl _) ?_
      subst e0
      exact ⟨rfl, rfl, rfl, rfl⟩
    · have e0 : 0 < s := Nat.pos_of_ne_zero fun e => h5 (by rw [e]; exact nI_0)
      obtain ⟨q1, q2, q3⟩ := pop_s s hs e0
      refine r_run okX12_ones 11 (cs := []) (σ' := (4, [some (.ref 100), some (.int (nI z)), some (.int ((nI n) + 1)), some (.int ((nI s) &&& ((nI s) - 1)))], [], (SS b c), I, J, 0, 0)) rfl trivial ?_
      rw [q2, ← nI_succ, q3, show n + (popN (nv (nI s &&& (nI s - 1))) + 1) = n + 1 + popN (nv (nI s &&& (nI s - 1))) by omega]
      exact ih _ q1 (by omega) (n + 1)
theorem c_ones (γ : GE) {b c : Bool} {I : AI} {J : AJ} (s : Nat) (hs : s < 256) : Ct γ mX12_ones 0 0 0 [.ref 100, .int (nI s)] (SS b c) I J (rI (nI (popN s)) (SS b c) I J) := by
  refine ct_of okX12_ones (L := [some (.ref 100), some (.int (nI s)), none, none]) (Nat.le_of_ble_eq_true rfl) rfl ?_
  refine r_run okX12_ones 4 (cs := []) (σ' := (4, [some (.ref 100), some (.int (nI s)), some (.int 0), some (.int (nI s))], [], (SS b c), I, J, 0, 0)) rfl trivial ?_
  have h := lp_ones γ (b := b) (c := c) (I := I) (J := J) s s hs 0
  rw [nI_0, Nat.zero_add] at h
  exact h
def pplN (I : AI) (z : Int32) : Nat → Int32
  | 0 => 0
  | n + 1 => if (z >>> (I 101 n &&& 31)) &&& 1 = 1 then pplN I z n + I 102 n else pplN I z n
theorem lp_ppl (γ : GE) {b c : Bool} {I : AI} {J : AJ} (z : Int32) : ∀ (j q : Nat), q + j = 96 → Rj γ mX12_peopleOf 0 0 0 (rI (pplN I z 96) (SS b c) I J) (4, [some (.ref 100), some (.int z), some (.int (pplN I z q)), some (.int (nI q))], [], (SS b c), I, J, 0, 0) := by
  intro j
  induction j with
  | zero =>
    intro q  hj
    refine r_run okX12_peopleOf 2 (cs := []) (σ' := (7, [some (.ref 100), some (.int z), some (.int (pplN I z q)), some (.int (nI q))], [.int 96, .int (nI q)], (SS b c), I, J, 0, 0)) rfl trivial ?_
    refine r_icmp okX12_peopleOf rfl (fun (h7 : (96 : Int32) ≤ (nI q)) => ?_) (fun (h7 : ¬ (96 : Int32) ≤ (nI q)) => ?_)
    · refine r_run okX12_peopleOf 1 (cs := []) (σ' := (40, [some (.ref 100), some (.int z), some (.int (pplN I z q)), some (.int (nI q))], [.int (pplN I z q)], (SS b c), I, J, 0, 0)) rfl trivial ?_
      refine r_iret okX12_peopleOf rfl rfl rfl (Nat.le_refl _) (Nat.le_refl _) ?_
      rw [show q = 96 by omega]
      exact ⟨rfl, rfl, rfl, rfl⟩
    · exact absurd (nI_le (a := 96) (by omega) (by omega)) h7
  | succ j ih =>
    intro q  hj
    have cq : (nI q).toNatClampNeg = q := nI_clamp (by omega)
    refine r_run okX12_peopleOf 2 (cs := []) (σ' := (7, [some (.ref 100), some (.int z), some (.int (pplN I z q)), some (.int (nI q))], [.int 96, .int (nI q)], (SS b c), I, J, 0, 0)) rfl trivial ?_
    refine r_icmp okX12_peopleOf rfl (fun (h7 : (96 : Int32) ≤ (nI q)) => ?_) (fun (h7 : ¬ (96 : Int32) ≤ (nI q)) => ?_)
    · exact absurd h7 (nI_ge (b := 96) (by omega) (by decide))
    · refine r_run okX12_peopleOf 9 (cs := [vp_in (nI q) 96]) (σ' := (21, [some (.ref 100), some (.int z), some (.int (pplN I z q)), some (.int (nI q))], [.int 1, .int ((z >>> ((I 101 ((nI q).toNatClampNeg)) &&& 31)) &&& 1)], (SS b c), I, J, 0, 0)) rfl ⟨(vin (by omega) (by decide)), trivial⟩ ?_
      simp only [cq]
      show Rj _ _ _ _ _ _ (21, [some (.ref 100), some (.int z), some (.int (pplN I z q)), some (.int (nI q))], [.int 1, .int ((z >>> ((I 101 q) &&& 31)) &&& 1)], (SS b c), I, J, 0, 0)
      refine r_icmp okX12_peopleOf rfl (fun (h21 : ¬ ((z >>> ((I 101 q) &&& 31)) &&& 1) = (1 : Int32)) => ?_) (fun h210 => ?_)
      · refine r_run okX12_peopleOf 2 (cs := []) (σ' := (4, [some (.ref 100), some (.int z), some (.int (pplN I z q)), some (.int (nI q + 1))], [], (SS b c), I, J, 0, 0)) rfl trivial ?_
        have e : pplN I z (q + 1) = (pplN I z q) := by rw [pplN]; simp [*]
        rw [← nI_succ, ← e]
        exact ih (q + 1) (by omega)
      · have h21 : ((z >>> ((I 101 q) &&& 31)) &&& 1) = (1 : Int32) := Classical.not_not.mp h210
        refine r_run okX12_peopleOf 9 (cs := [vp_in (nI q) 96]) (σ' := (4, [some (.ref 100), some (.int z), some (.int ((pplN I z q) + (I 102 ((nI q).toNatClampNeg)))), some (.int (nI q + 1))], [], (SS b c), I, J, 0, 0)) rfl ⟨(vin (by omega) (by decide)), trivial⟩ ?_
        simp only [cq]
        show Rj _ _ _ _ _ _ (4, [some (.ref 100), some (.int z), some (.int ((pplN I z q) + (I 102 q))), some (.int (nI q + 1))], [], (SS b c), I, J, 0, 0)
        have e : pplN I z (q + 1) = ((pplN I z q) + (I 102 q)) := by rw [pplN]; simp [*]
        rw [← nI_succ, ← e]
        exact ih (q + 1) (by omega)
theorem c_peopleOf (γ : GE) {b c : Bool} {I : AI} {J : AJ} (z : Int32) : Ct γ mX12_peopleOf 0 0 0 [.ref 100, .int z] (SS b c) I J (rI (pplN I z 96) (SS b c) I J) := by
  refine ct_of okX12_peopleOf (L := [some (.ref 100), some (.int z), none, none]) (Nat.le_of_ble_eq_true rfl) rfl ?_
  refine r_run okX12_peopleOf 4 (cs := []) (σ' := (4, [some (.ref 100), some (.int z), some (.int 0), some (.int 0)], [], (SS b c), I, J, 0, 0)) rfl trivial ?_
  have h := lp_ppl γ (b := b) (c := c) (I := I) (J := J) z 96 0 rfl
  rw [show pplN I z 0 = 0 from rfl, nI_0] at h
  exact h
def wrJ (J : AJ) (n : Nat) (f : Nat → Int64) (k : Nat) : AJ := fun a b => if a = 117 then (if n ≤ b ∧ b < n + k then f (b - n) else J a b) else J a b
theorem wrJ_ne {J : AJ} {n : Nat} {f : Nat → Int64} {k a : Nat} (h : a ≠ 117) : wrJ J n f k a = J a := by funext b; simp [wrJ, h]
theorem wrJ_0 {J : AJ} {n : Nat} {f : Nat → Int64} : wrJ J n f 0 = J := by funext a b; simp only [wrJ]; split <;> (try split) <;> simp_all; omega
theorem wrJ_in {J : AJ} {n : Nat} {f : Nat → Int64} {k y : Nat} (h : y < k) : wrJ J n f k 117 (n + y) = f y := by
  simp only [wrJ, if_true]
  rw [if_pos (by omega), Nat.add_sub_cancel_left]
theorem wrJ_out {J : AJ} {n : Nat} {f : Nat → Int64} {k z : Nat} (h : z < n ∨ n + k ≤ z) : wrJ J n f k 117 z = J 117 z := by
  simp only [wrJ, if_true]
  rw [if_neg (by omega)]
theorem wrJ_s {J : AJ} {n : Nat} {f : Nat → Int64} {k : Nat} : upJ (wrJ J n f k) 117 (n + k) (f k) = wrJ J n f (k + 1) := by
  funext a b
  simp only [wrJ, upJ]
  by_cases h : a = 117
  · by_cases h1 : b = n + k
    · subst h1
      simp [h, Nat.add_sub_cancel_left]
    · have e : (n ≤ b ∧ b < n + (k + 1)) = (n ≤ b ∧ b < n + k) := by apply propext; omega
      simp only [h, h1, if_true, if_false, e]
  · simp [h]
def sumW (f : Nat → Int64) (p : Nat → Bool) : Nat → Int64
  | 0 => 0
  | n + 1 => if p n then sumW f p n + f n else sumW f p n
def mvS (m : Int32) (x : Nat) (b : Nat) : Bool := mvOn m b && mvOK x b
/-- how many paths of k steps begin at x and stay within z -/
def wyN (I : AI) (z : Int32) : Nat → Nat → Int64
  | 0, x => if in0 I z x then 1 else 0
  | k + 1, x => if in0 I z x then sumW (fun b => wyN I z k (mvT x b)) (mvS (I 100 6) x) 9 else 0
def pthV (I : AI) (z : Int32) (n : Nat) (fm : Nat → Bool) : Int64 := sumW (wyN I z n) fm 96
theorem lp_PA (γ : GE) {b c : Bool} {I : AI} {J : AJ} {Post : PT} (n : Nat) (z : Int32) (K : Rj γ mX12_pathsIn 2 0 0 Post (34, [some (.ref 100), some (.int (nI n)), some (.int z), none, none, none, none, none], [], (SS b c), I, (wrJ J 0 (wyN I z 0) 96), 0, 0)) : ∀ (j q : Nat), q + j = 96 → Rj γ mX12_pathsIn 2 0 0 (Post) (2, [some (.ref 100), some (.int (nI n)), some (.int z), some (.int (nI q)), none, none, none, none], [], (SS b c), I, (wrJ J 0 (wyN I z 0) q), 0, 0) := by
  intro j
  induction j with
  | zero =>
    intro q  hj
    refine r_run okX12_pathsIn 2 (cs := []) (σ' := (5, [some (.ref 100), some (.int (nI n)), some (.int z), some (.int (nI q)), none, none, none, none], [.int 96, .int (nI q)], (SS b c), I, (wrJ J 0 (wyN I z 0) q), 0, 0)) rfl trivial ?_
    refine r_icmp okX12_pathsIn rfl (fun (h5 : (96 : Int32) ≤ (nI q)) => ?_) (fun (h5 : ¬ (96 : Int32) ≤ (nI q)) => ?_)
    · rw [show q = 96 by omega]
      refine r_weak (L' := [some (.ref 100), some (.int (nI n)), some (.int z), none, none, none, none, none]) ⟨rfl, rfl, rfl, trivial⟩ K
    · exact absurd (nI_le (a := 96) (by omega) (by omega)) h5
  | succ j ih =>
    intro q  hj
    have cq : (nI q).toNatClampNeg = q := nI_clamp (by omega)
    refine r_run okX12_pathsIn 2 (cs := []) (σ' := (5, [some (.ref 100), some (.int (nI n)), some (.int z), some (.int (nI q)), none, none, none, none], [.int 96, .int (nI q)], (SS b c), I, (wrJ J 0 (wyN I z 0) q), 0, 0)) rfl trivial ?_
    refine r_icmp okX12_pathsIn rfl (fun (h5 : (96 : Int32) ≤ (nI q)) => ?_) (fun (h5 : ¬ (96 : Int32) ≤ (nI q)) => ?_)
    · exact absurd h5 (nI_ge (b := 96) (by omega) (by decide))
    · refine r_run okX12_pathsIn 6 (cs := []) (σ' := (16, [some (.ref 100), some (.int (nI n)), some (.int z), some (.int (nI q)), none, none, none, none], [.int z, .int (nI q), .ref 100, .int (nI q), .ref 117], (SS b c), I, (wrJ J 0 (wyN I z 0) q), 0, 0)) rfl trivial ?_
      refine r_callV okX12_pathsIn okX12_isIn0 [.int (nI q), .int z] [.int (nI q), .ref 117] 100 rfl rfl rfl kkX12_isIn0 rfl rfl (by decide) rfl rfl rfl (by decide) ⟨Nat.le_refl _, Nat.le_refl _⟩ (Nat.le_of_ble_eq_true rfl) (c_isIn0 γ q z (by omega)) (fun v1 S1 I1 J1 hp => ?_)
      obtain ⟨rfl, rfl, rfl, rfl⟩ := hp
      show Rj _ _ _ _ _ _ (19, [some (.ref 100), some (.int (nI n)), some (.int z), some (.int (nI q)), none, none, none, none], [.int (bi (in0 I z q)), .int (nI q), .ref 117], (SS b c), I, (wrJ J 0 (wyN I z 0) q), 0, 0)
      refine r_ifc okX12_pathsIn rfl (fun (h19 : (bi (in0 I z q)) = (0 : Int32)) => ?_) (fun (h19 : ¬ (bi (in0 I z q)) = (0 : Int32)) => ?_)
      · have hs := bi_0.mp h19
        refine r_run okX12_pathsIn 4 (cs := [vp_in (nI q) 192]) (σ' := (2, [some (.ref 100), some (.int (nI n)), some (.int z), some (.int (nI q + 1)), none, none, none, none], [], (SS b c), I, (upJ (wrJ J 0 (wyN I z 0) q) 117 ((nI q).toNatClampNeg) 0), 0, 0)) rfl ⟨(vin (by omega) (by decide)), trivial⟩ ?_
        simp only [cq]
        show Rj _ _ _ _ _ _ (2, [some (.ref 100), some (.int (nI n)), some (.int z), some (.int (nI q + 1)), none, none, none, none], [], (SS b c), I, (upJ (wrJ J 0 (wyN I z 0) q) 117 q 0), 0, 0)
        have e := wrJ_s (J := J) (n := 0) (f := wyN I z 0) (k := q)
        rw [Nat.zero_add, show wyN I z 0 q = 0 by rw [wyN, hs]; rfl] at e
        rw [e, ← nI_succ]
        exact ih (q + 1) (by omega)
      · have hs := bi_n0.mp h19
        refine r_run okX12_pathsIn 5 (cs := [vp_in (nI q) 192]) (σ' := (2, [some (.ref 100), some (.int (nI n)), some (.int z), some (.int (nI q + 1)), none, none, none, none], [], (SS b c), I, (upJ (wrJ J 0 (wyN I z 0) q) 117 ((nI q).toNatClampNeg) 1), 0, 0)) rfl ⟨(vin (by omega) (by decide)), trivial⟩ ?_
        simp only [cq]
        show Rj _ _ _ _ _ _ (2, [some (.ref 100), some (.int (nI n)), some (.int z), some (.int (nI q + 1)), none, none, none, none], [], (SS b c), I, (upJ (wrJ J 0 (wyN I z 0) q) 117 q 1), 0, 0)
        have e := wrJ_s (J := J) (n := 0) (f := wyN I z 0) (k := q)
        rw [Nat.zero_add, show wyN I z 0 q = 1 by rw [wyN, hs]; rfl] at e
        rw [e, ← nI_succ]
        exact ih (q + 1) (by omega)
theorem lp_Pb (γ : GE) {b c : Bool} {I : AI} {Post : PT} {J1 : AJ} (n k x : Nat) (z : Int32) (hx : x < 96) (hJ : ∀ y, y < 96 → J1 117 y = wyN I z k y) (K : Rj γ mX12_pathsIn 2 0 0 Post (113, [some (.ref 100), some (.int (nI n)), some (.int z), some (.int (nI k)), some (.int (nI x)), some (.long (sumW (fun b => wyN I z k (mvT x b)) (mvS (I 100 6) x) 9)), none, none], [], (SS b c), I, (wrJ J1 96 (wyN I z (k + 1)) x), 0, 0)) : ∀ (j q : Nat), q + j = 9 → Rj γ mX12_pathsIn 2 0 0 (Post) (57, [some (.ref 100), some (.int (nI n)), some (.int z), some (.int (nI k)), some (.int (nI x)), some (.long (sumW (fun b => wyN I z k (mvT x b)) (mvS (I 100 6) x) q)), none, some (.int (nI q))], [], (SS b c), I, (wrJ J1 96 (wyN I z (k + 1)) x), 0, 0) := by
  intro j
  induction j with
  | zero =>
    intro q  hj
    refine r_run okX12_pathsIn 2 (cs := []) (σ' := (61, [some (.ref 100), some (.int (nI n)), some (.int z), some (.int (nI k)), some (.int (nI x)), some (.long (sumW (fun b => wyN I z k (mvT x b)) (mvS (I 100 6) x) q)), none, some (.int (nI q))], [.int 9, .int (nI q)], (SS b c), I, (wrJ J1 96 (wyN I z (k + 1)) x), 0, 0)) rfl trivial ?_
    refine r_icmp okX12_pathsIn rfl (fun (h61 : (9 : Int32) ≤ (nI q)) => ?_) (fun (h61 : ¬ (9 : Int32) ≤ (nI q)) => ?_)
    · rw [show q = 9 by omega]
      refine r_weak (L' := [some (.ref 100), some (.int (nI n)), some (.int z), some (.int (nI k)), some (.int (nI x)), some (.long (sumW (fun b => wyN I z k (mvT x b)) (mvS (I 100 6) x) 9)), none, none]) ⟨rfl, rfl, rfl, rfl, rfl, rfl, trivial⟩ K
    · exact absurd (nI_le (a := 9) (by omega) (by omega)) h61
  | succ j ih =>
    intro q  hj
    refine r_run okX12_pathsIn 2 (cs := []) (σ' := (61, [some (.ref 100), some (.int (nI n)), some (.int z), some (.int (nI k)), some (.int (nI x)), some (.long (sumW (fun b => wyN I z k (mvT x b)) (mvS (I 100 6) x) q)), none, some (.int (nI q))], [.int 9, .int (nI q)], (SS b c), I, (wrJ J1 96 (wyN I z (k + 1)) x), 0, 0)) rfl trivial ?_
    refine r_icmp okX12_pathsIn rfl (fun (h61 : (9 : Int32) ≤ (nI q)) => ?_) (fun (h61 : ¬ (9 : Int32) ≤ (nI q)) => ?_)
    · exact absurd h61 (nI_ge (b := 9) (by omega) (by decide))
    · refine r_run okX12_pathsIn 7 (cs := []) (σ' := (74, [some (.ref 100), some (.int (nI n)), some (.int z), some (.int (nI k)), some (.int (nI x)), some (.long (sumW (fun b => wyN I z k (mvT x b)) (mvS (I 100 6) x) q)), none, some (.int (nI q))], [.int 1, .int (((I 100 6) >>> ((nI q) &&& 31)) &&& 1)], (SS b c), I, (wrJ J1 96 (wyN I z (k + 1)) x), 0, 0)) rfl trivial ?_
      refine r_icmp okX12_pathsIn rfl (fun (h74 : ¬ (((I 100 6) >>> ((nI q) &&& 31)) &&& 1) = (1 : Int32)) => ?_) (fun h740 => ?_)
      · have hon : mvOn (I 100 6) q = false := by simp [mvOn, h74]
        refine r_run okX12_pathsIn 2 (cs := []) (σ' := (57, [some (.ref 100), some (.int (nI n)), some (.int z), some (.int (nI k)), some (.int (nI x)), some (.long (sumW (fun b => wyN I z k (mvT x b)) (mvS (I 100 6) x) q)), none, some (.int (nI q + 1))], [], (SS b c), I, (wrJ J1 96 (wyN I z (k + 1)) x), 0, 0)) rfl trivial ?_
        have e : sumW (fun b => wyN I z k (mvT x b)) (mvS (I 100 6) x) (q + 1) = (sumW (fun b => wyN I z k (mvT x b)) (mvS (I 100 6) x) q) := by rw [sumW]; simp [mvS, *]
        rw [← nI_succ, ← e]
        exact ih (q + 1) (by omega)
      · have h74 : (((I 100 6) >>> ((nI q) &&& 31)) &&& 1) = (1 : Int32) := Classical.not_not.mp h740
        have hon : mvOn (I 100 6) q = true := by simp [mvOn, h74]
        refine r_run okX12_pathsIn 3 (cs := []) (σ' := (82, [some (.ref 100), some (.int (nI n)), some (.int z), some (.int (nI k)), some (.int (nI x)), some (.long (sumW (fun b => wyN I z k (mvT x b)) (mvS (I 100 6) x) q)), none, some (.int (nI q))], [.int (nI q), .int (nI x), .ref 100], (SS b c), I, (wrJ J1 96 (wyN I z (k + 1)) x), 0, 0)) rfl trivial ?_
        refine r_callV okX12_pathsIn okX12_moved [.int (nI x), .int (nI q)] [] 100 rfl rfl rfl kkX12_moved rfl rfl (by decide) rfl rfl rfl (by decide) ⟨Nat.le_refl _, Nat.le_refl _⟩ (Nat.le_of_ble_eq_true rfl) (c_moved0 γ x q hx (by omega)) (fun v1 S1 I1 J1 hp => ?_)
        obtain ⟨rfl, rfl, rfl, rfl⟩ := hp
        show Rj _ _ _ _ _ _ (85, [some (.ref 100), some (.int (nI n)), some (.int z), some (.int (nI k)), some (.int (nI x)), some (.long (sumW (fun b => wyN I z k (mvT x b)) (mvS (I 100 6) x) q)), none, some (.int (nI q))], [.int (movI x q)], (SS b c), I, (wrJ J1 96 (wyN I z (k + 1)) x), 0, 0)
        refine r_run okX12_pathsIn 1 (cs := []) (σ' := (86, [some (.ref 100), some (.int (nI n)), some (.int z), some (.int (nI k)), some (.int (nI x)), some (.long (sumW (fun b => wyN I z k (mvT x b)) (mvS (I 100 6) x) q)), none, some (.int (nI q))], [.int (-1), .int (movI x q)], (SS b c), I, (wrJ J1 96 (wyN I z (k + 1)) x), 0, 0)) rfl trivial ?_
        refine r_icmp okX12_pathsIn rfl (fun (h86 : (movI x q) = ((-1) : Int32)) => ?_) (fun (h86 : ¬ (movI x q) = ((-1) : Int32)) => ?_)
        · have hok : mvOK x q = false := by
            cases e : mvOK x q with
            | false => rfl
            | true =>
              unfold movI at h86
              rw [e, if_pos rfl] at h86
              exact absurd h86 (nI_m1 (by have := ((mv_dec x hx q (by omega)).2 e).2; omega))
          refine r_run okX12_pathsIn 2 (cs := []) (σ' := (57, [some (.ref 100), some (.int (nI n)), some (.int z), some (.int (nI k)), some (.int (nI x)), some (.long (sumW (fun b => wyN I z k (mvT x b)) (mvS (I 100 6) x) q)), none, some (.int (nI q + 1))], [], (SS b c), I, (wrJ J1 96 (wyN I z (k + 1)) x), 0, 0)) rfl trivial ?_
          have e : sumW (fun b => wyN I z k (mvT x b)) (mvS (I 100 6) x) (q + 1) = (sumW (fun b => wyN I z k (mvT x b)) (mvS (I 100 6) x) q) := by rw [sumW]; simp [mvS, *]
          rw [← nI_succ, ← e]
          exact ih (q + 1) (by omega)
        · have hok : mvOK x q = true := by
            cases e : mvOK x q with
            | true => rfl
            | false => exact absurd (by unfold movI; rw [e]; rfl) h86
          have ez : movI x q = nI (mvT x q) := by unfold movI; rw [hok]; rfl
          have hz : mvT x q < 96 := ((mv_dec x hx q (by omega)).2 hok).2
          have cz : (movI x q).toNatClampNeg = mvT x q := by rw [ez]; exact nI_clamp (by omega)
          have vz : vp_in (movI x q) 192 := by rw [ez]; exact vin (by omega) (by decide)
          have rb : (wrJ J1 96 (wyN I z (k + 1)) x) 117 (mvT x q) = wyN I z k (mvT x q) := by rw [wrJ_out (by omega)]; exact hJ _ hz
          refine r_run okX12_pathsIn 6 (cs := []) (σ' := (100, [some (.ref 100), some (.int (nI n)), some (.int z), some (.int (nI k)), some (.int (nI x)), some (.long (sumW (fun b => wyN I z k (mvT x b)) (mvS (I 100 6) x) q)), none, some (.int (nI q))], [.int (nI q), .int (nI x), .ref 100, .ref 117, .long (sumW (fun b => wyN I z k (mvT x b)) (mvS (I 100 6) x) q)], (SS b c), I, (wrJ J1 96 (wyN I z (k + 1)) x), 0, 0)) rfl trivial ?_
          refine r_callV okX12_pathsIn okX12_moved [.int (nI x), .int (nI q)] [.ref 117, .long (sumW (fun b => wyN I z k (mvT x b)) (mvS (I 100 6) x) q)] 100 rfl rfl rfl kkX12_moved rfl rfl (by decide) rfl rfl rfl (by decide) ⟨Nat.le_refl _, Nat.le_refl _⟩ (Nat.le_of_ble_eq_true rfl) (c_moved0 γ x q hx (by omega)) (fun v1 S1 I1 J1 hp => ?_)
          obtain ⟨rfl, rfl, rfl, rfl⟩ := hp
          show Rj _ _ _ _ _ _ (103, [some (.ref 100), some (.int (nI n)), some (.int z), some (.int (nI k)), some (.int (nI x)), some (.long (sumW (fun b => wyN I z k (mvT x b)) (mvS (I 100 6) x) q)), none, some (.int (nI q))], [.int (movI x q), .ref 117, .long (sumW (fun b => wyN I z k (mvT x b)) (mvS (I 100 6) x) q)], (SS b c), I, (wrJ J1 96 (wyN I z (k + 1)) x), 0, 0)
          refine r_run okX12_pathsIn 5 (cs := [vp_in (movI x q) 192]) (σ' := (57, [some (.ref 100), some (.int (nI n)), some (.int z), some (.int (nI k)), some (.int (nI x)), some (.long ((sumW (fun b => wyN I z k (mvT x b)) (mvS (I 100 6) x) q) + ((wrJ J1 96 (wyN I z (k + 1)) x) 117 ((movI x q).toNatClampNeg)))), none, some (.int (nI q + 1))], [], (SS b c), I, (wrJ J1 96 (wyN I z (k + 1)) x), 0, 0)) rfl ⟨vz, trivial⟩ ?_
          simp only [cz, rb]
          show Rj _ _ _ _ _ _ (57, [some (.ref 100), some (.int (nI n)), some (.int z), some (.int (nI k)), some (.int (nI x)), some (.long ((sumW (fun b => wyN I z k (mvT x b)) (mvS (I 100 6) x) q) + (wyN I z k (mvT x q)))), none, some (.int (nI q + 1))], [], (SS b c), I, (wrJ J1 96 (wyN I z (k + 1)) x), 0, 0)
          have e : sumW (fun b => wyN I z k (mvT x b)) (mvS (I 100 6) x) (q + 1) = ((sumW (fun b => wyN I z k (mvT x b)) (mvS (I 100 6) x) q) + (wyN I z k (mvT x q))) := by rw [sumW]; simp [mvS, *]
          rw [← nI_succ, ← e]
          exact ih (q + 1) (by omega)
theorem lp_Px (γ : GE) {b c : Bool} {I : AI} {Post : PT} {J1 : AJ} (n k : Nat) (z : Int32) (hJ : ∀ y, y < 96 → J1 117 y = wyN I z k y) (K : Rj γ mX12_pathsIn 2 0 0 Post (145, [some (.ref 100), some (.int (nI n)), some (.int z), some (.int (nI k)), none, none, none, none], [], (SS b c), I, (wrJ J1 96 (wyN I z (k + 1)) 96), 0, 0)) : ∀ (j x : Nat), x + j = 96 → Rj γ mX12_pathsIn 2 0 0 (Post) (44, [some (.ref 100), some (.int (nI n)), some (.int z), some (.int (nI k)), some (.int (nI x)), none, none, none], [], (SS b c), I, (wrJ J1 96 (wyN I z (k + 1)) x), 0, 0) := by
  intro j
  induction j with
  | zero =>
    intro x  hj
    refine r_run okX12_pathsIn 2 (cs := []) (σ' := (48, [some (.ref 100), some (.int (nI n)), some (.int z), some (.int (nI k)), some (.int (nI x)), none, none, none], [.int 96, .int (nI x)], (SS b c), I, (wrJ J1 96 (wyN I z (k + 1)) x), 0, 0)) rfl trivial ?_
    refine r_icmp okX12_pathsIn rfl (fun (h48 : (96 : Int32) ≤ (nI x)) => ?_) (fun (h48 : ¬ (96 : Int32) ≤ (nI x)) => ?_)
    · rw [show x = 96 by omega]
      refine r_weak (L' := [some (.ref 100), some (.int (nI n)), some (.int z), some (.int (nI k)), none, none, none, none]) ⟨rfl, rfl, rfl, rfl, trivial⟩ K
    · exact absurd (nI_le (a := 96) (by omega) (by omega)) h48
  | succ j ih =>
    intro x  hj
    have e96 : (96 : Int32) + nI x = nI (96 + x) := nI_add 96 x
    have c96 : ((96 : Int32) + nI x).toNatClampNeg = 96 + x := by rw [e96]; exact nI_clamp (by omega)
    have v96 : vp_in ((96 : Int32) + nI x) 192 := by rw [e96]; exact vin (by omega) (by decide)
    refine r_run okX12_pathsIn 2 (cs := []) (σ' := (48, [some (.ref 100), some (.int (nI n)), some (.int z), some (.int (nI k)), some (.int (nI x)), none, none, none], [.int 96, .int (nI x)], (SS b c), I, (wrJ J1 96 (wyN I z (k + 1)) x), 0, 0)) rfl trivial ?_
    refine r_icmp okX12_pathsIn rfl (fun (h48 : (96 : Int32) ≤ (nI x)) => ?_) (fun (h48 : ¬ (96 : Int32) ≤ (nI x)) => ?_)
    · exact absurd h48 (nI_ge (b := 96) (by omega) (by decide))
    · refine r_run okX12_pathsIn 4 (cs := []) (σ' := (57, [some (.ref 100), some (.int (nI n)), some (.int z), some (.int (nI k)), some (.int (nI x)), some (.long 0), none, some (.int 0)], [], (SS b c), I, (wrJ J1 96 (wyN I z (k + 1)) x), 0, 0)) rfl trivial ?_
      have h := lp_Pb γ (b := b) (c := c) (I := I) (Post := Post) (J1 := J1) n k x z (by omega) hJ ?_ 9 0 rfl
      · rw [show sumW (fun b => wyN I z k (mvT x b)) (mvS (I 100 6) x) 0 = 0 from rfl, nI_0] at h
        exact h
      · refine r_run okX12_pathsIn 8 (cs := []) (σ' := (126, [some (.ref 100), some (.int (nI n)), some (.int z), some (.int (nI k)), some (.int (nI x)), some (.long (sumW (fun b => wyN I z k (mvT x b)) (mvS (I 100 6) x) 9)), none, none], [.int z, .int (nI x), .ref 100, .int (96 + (nI x)), .ref 117], (SS b c), I, (wrJ J1 96 (wyN I z (k + 1)) x), 0, 0)) rfl trivial ?_
        refine r_callV okX12_pathsIn okX12_isIn0 [.int (nI x), .int z] [.int (96 + (nI x)), .ref 117] 100 rfl rfl rfl kkX12_isIn0 rfl rfl (by decide) rfl rfl rfl (by decide) ⟨Nat.le_refl _, Nat.le_refl _⟩ (Nat.le_of_ble_eq_true rfl) (c_isIn0 γ x z (by omega)) (fun v1 S1 I1 J1 hp => ?_)
        obtain ⟨rfl, rfl, rfl, rfl⟩ := hp
        show Rj _ _ _ _ _ _ (129, [some (.ref 100), some (.int (nI n)), some (.int z), some (.int (nI k)), some (.int (nI x)), some (.long (sumW (fun b => wyN I z k (mvT x b)) (mvS (I 100 6) x) 9)), none, none], [.int (bi (in0 I z x)), .int (96 + (nI x)), .ref 117], (SS b c), I, (wrJ J1 96 (wyN I z (k + 1)) x), 0, 0)
        refine r_ifc okX12_pathsIn rfl (fun (h129 : (bi (in0 I z x)) = (0 : Int32)) => ?_) (fun (h129 : ¬ (bi (in0 I z x)) = (0 : Int32)) => ?_)
        · have hs := bi_0.mp h129
          refine r_run okX12_pathsIn 4 (cs := [vp_in (96 + (nI x)) 192]) (σ' := (44, [some (.ref 100), some (.int (nI n)), some (.int z), some (.int (nI k)), some (.int (nI x + 1)), some (.long (sumW (fun b => wyN I z k (mvT x b)) (mvS (I 100 6) x) 9)), none, none], [], (SS b c), I, (upJ (wrJ J1 96 (wyN I z (k + 1)) x) 117 ((96 + (nI x)).toNatClampNeg) 0), 0, 0)) rfl ⟨v96, trivial⟩ ?_
          simp only [c96]
          show Rj _ _ _ _ _ _ (44, [some (.ref 100), some (.int (nI n)), some (.int z), some (.int (nI k)), some (.int (nI x + 1)), some (.long (sumW (fun b => wyN I z k (mvT x b)) (mvS (I 100 6) x) 9)), none, none], [], (SS b c), I, (upJ (wrJ J1 96 (wyN I z (k + 1)) x) 117 (96 + x) 0), 0, 0)
          have e := wrJ_s (J := J1) (n := 96) (f := wyN I z (k + 1)) (k := x)
          rw [show wyN I z (k + 1) x = 0 by rw [wyN, hs]; rfl] at e
          rw [e, ← nI_succ]
          refine r_weak (L' := [some (.ref 100), some (.int (nI n)), some (.int z), some (.int (nI k)), some (.int (nI (x + 1))), none, none, none]) ⟨rfl, rfl, rfl, rfl, rfl, trivial⟩ ?_
          exact ih (x + 1) (by omega)
        · have hs := bi_n0.mp h129
          refine r_run okX12_pathsIn 5 (cs := [vp_in (96 + (nI x)) 192]) (σ' := (44, [some (.ref 100), some (.int (nI n)), some (.int z), some (.int (nI k)), some (.int (nI x + 1)), some (.long (sumW (fun b => wyN I z k (mvT x b)) (mvS (I 100 6) x) 9)), none, none], [], (SS b c), I, (upJ (wrJ J1 96 (wyN I z (k + 1)) x) 117 ((96 + (nI x)).toNatClampNeg) (sumW (fun b => wyN I z k (mvT x b)) (mvS (I 100 6) x) 9)), 0, 0)) rfl ⟨v96, trivial⟩ ?_
          simp only [c96]
          show Rj _ _ _ _ _ _ (44, [some (.ref 100), some (.int (nI n)), some (.int z), some (.int (nI k)), some (.int (nI x + 1)), some (.long (sumW (fun b => wyN I z k (mvT x b)) (mvS (I 100 6) x) 9)), none, none], [], (SS b c), I, (upJ (wrJ J1 96 (wyN I z (k + 1)) x) 117 (96 + x) (sumW (fun b => wyN I z k (mvT x b)) (mvS (I 100 6) x) 9)), 0, 0)
          have e := wrJ_s (J := J1) (n := 96) (f := wyN I z (k + 1)) (k := x)
          rw [show wyN I z (k + 1) x = sumW (fun b => wyN I z k (mvT x b)) (mvS (I 100 6) x) 9 by rw [wyN, hs]; rfl] at e
          rw [e, ← nI_succ]
          refine r_weak (L' := [some (.ref 100), some (.int (nI n)), some (.int z), some (.int (nI k)), some (.int (nI (x + 1))), none, none, none]) ⟨rfl, rfl, rfl, rfl, rfl, trivial⟩ ?_
          exact ih (x + 1) (by omega)
