/-! ===== Land ===== -/
theorem and_1 (x : Int32) : x &&& 1 = 0 ∨ x &&& 1 = 1 := by
  obtain ⟨j, hj, e⟩ := pk_andE x (m := 1) 1 (by decide)
  rw [e]
  have : j = 0 ∨ j = 1 := by omega
  rcases this with rfl | rfl
  · exact Or.inl rfl
  · exact Or.inr rfl
theorem on_0 {x : Int32} : x &&& 1 = 0 ↔ decide (x &&& 1 = 1) = false := by
  rcases and_1 x with h | h <;> rw [h] <;> decide
theorem on_1 {x : Int32} : ¬ x &&& 1 = 0 ↔ decide (x &&& 1 = 1) = true := by
  rcases and_1 x with h | h <;> rw [h] <;> decide
/-- the office's land is the reference's -/
def OLd (I : AI) : Prop := ∀ x, x < 96 → I 2 x = I 101 x ∧ I 3 x = I 102 x ∧ I 4 x = I 103 x
def smB (g : Nat → Int32) (f : Nat → Bool) : Nat → Int32
  | 0 => 0
  | n + 1 => if f n then smB g f n + g n else smB g f n
/-- the counties with people within f, as a set -/
def cwp (I : AI) (f : Nat → Bool) : Nat → Int32
  | 0 => 0
  | n + 1 => if decide (0 < I 102 n) && f n then cwp I f n ||| ((1 : Int32) <<< (I 101 n &&& 31)) else cwp I f n
theorem o_countyAt0 (γ : GE) {b c : Bool} {I : AI} {J : AJ} (hL : OLd I) {x : Nat} (hx : x < 96) : Ct γ mX2_countyAt 0 0 0 [.ref 1, .int (nI x)] (SS b c) I J (rI (I 101 x) (SS b c) I J) := by
  have cx : (nI x).toNatClampNeg = x := nI_clamp (by omega)
  refine ct_of okX2_countyAt (L := [some (.ref 1), some (.int (nI x))]) (Nat.le_of_ble_eq_true rfl) rfl ?_
  refine r_run okX2_countyAt 4 (cs := [vp_in (nI x) 96]) (σ' := (6, [some (.ref 1), some (.int (nI x))], [.int (I 2 ((nI x).toNatClampNeg))], (SS b c), I, J, 0, 0)) rfl ⟨(vin hx (by decide)), trivial⟩ ?_
  simp only [cx]
  show Rj _ _ _ _ _ _ (6, [some (.ref 1), some (.int (nI x))], [.int (I 2 x)], (SS b c), I, J, 0, 0)
  refine r_iret okX2_countyAt rfl rfl rfl (Nat.le_refl _) (Nat.le_refl _) ?_
  exact ⟨by rw [(hL x hx).1], rfl, rfl, rfl⟩
theorem o_countyAt (γ : GE) {b c : Bool} {I : AI} {J : AJ} (hL : OLd I) {x : Nat} (hx : x < 96) {X : Int32} (eX : X = nI x) : Ct γ mX2_countyAt 0 0 0 [.ref 1, .int X] (SS b c) I J (rI (I 101 x) (SS b c) I J) := by
  subst eX; exact o_countyAt0 γ hL hx
theorem o_peopleAt0 (γ : GE) {b c : Bool} {I : AI} {J : AJ} (hL : OLd I) {x : Nat} (hx : x < 96) : Ct γ mX2_peopleAt 0 0 0 [.ref 1, .int (nI x)] (SS b c) I J (rI (I 102 x) (SS b c) I J) := by
  have cx : (nI x).toNatClampNeg = x := nI_clamp (by omega)
  refine ct_of okX2_peopleAt (L := [some (.ref 1), some (.int (nI x))]) (Nat.le_of_ble_eq_true rfl) rfl ?_
  refine r_run okX2_peopleAt 4 (cs := [vp_in (nI x) 96]) (σ' := (6, [some (.ref 1), some (.int (nI x))], [.int (I 3 ((nI x).toNatClampNeg))], (SS b c), I, J, 0, 0)) rfl ⟨(vin hx (by decide)), trivial⟩ ?_
  simp only [cx]
  show Rj _ _ _ _ _ _ (6, [some (.ref 1), some (.int (nI x))], [.int (I 3 x)], (SS b c), I, J, 0, 0)
  refine r_iret okX2_peopleAt rfl rfl rfl (Nat.le_refl _) (Nat.le_refl _) ?_
  exact ⟨by rw [(hL x hx).2.1], rfl, rfl, rfl⟩
theorem o_peopleAt (γ : GE) {b c : Bool} {I : AI} {J : AJ} (hL : OLd I) {x : Nat} (hx : x < 96) {X : Int32} (eX : X = nI x) : Ct γ mX2_peopleAt 0 0 0 [.ref 1, .int X] (SS b c) I J (rI (I 102 x) (SS b c) I J) := by
  subst eX; exact o_peopleAt0 γ hL hx
theorem o_shelterAt0 (γ : GE) {b c : Bool} {I : AI} {J : AJ} (hL : OLd I) {x : Nat} (hx : x < 96) : Ct γ mX2_shelterAt 0 0 0 [.ref 1, .int (nI x)] (SS b c) I J (rI (I 103 x) (SS b c) I J) := by
  have cx : (nI x).toNatClampNeg = x := nI_clamp (by omega)
  refine ct_of okX2_shelterAt (L := [some (.ref 1), some (.int (nI x))]) (Nat.le_of_ble_eq_true rfl) rfl ?_
  refine r_run okX2_shelterAt 4 (cs := [vp_in (nI x) 96]) (σ' := (6, [some (.ref 1), some (.int (nI x))], [.int (I 4 ((nI x).toNatClampNeg))], (SS b c), I, J, 0, 0)) rfl ⟨(vin hx (by decide)), trivial⟩ ?_
  simp only [cx]
  show Rj _ _ _ _ _ _ (6, [some (.ref 1), some (.int (nI x))], [.int (I 4 x)], (SS b c), I, J, 0, 0)
  refine r_iret okX2_shelterAt rfl rfl rfl (Nat.le_refl _) (Nat.le_refl _) ?_
  exact ⟨by rw [(hL x hx).2.2], rfl, rfl, rfl⟩
theorem o_shelterAt (γ : GE) {b c : Bool} {I : AI} {J : AJ} (hL : OLd I) {x : Nat} (hx : x < 96) {X : Int32} (eX : X = nI x) : Ct γ mX2_shelterAt 0 0 0 [.ref 1, .int X] (SS b c) I J (rI (I 103 x) (SS b c) I J) := by
  subst eX; exact o_shelterAt0 γ hL hx
theorem o_peopleOf (γ : GE) {b c : Bool} {I : AI} {J : AJ} {k : Nat} (hk : k < 8) : Ct γ mX2_peopleOf 0 0 0 [.ref 1, .int (nI k)] (SS b c) I J (rI (I 6 k) (SS b c) I J) := by
  have ck : (nI k).toNatClampNeg = k := nI_clamp (by omega)
  refine ct_of okX2_peopleOf (L := [some (.ref 1), some (.int (nI k))]) (Nat.le_of_ble_eq_true rfl) rfl ?_
  refine r_run okX2_peopleOf 4 (cs := [vp_in (nI k) 8]) (σ' := (6, [some (.ref 1), some (.int (nI k))], [.int (I 6 ((nI k).toNatClampNeg))], (SS b c), I, J, 0, 0)) rfl ⟨(vin hk (by decide)), trivial⟩ ?_
  simp only [ck]
  show Rj _ _ _ _ _ _ (6, [some (.ref 1), some (.int (nI k))], [.int (I 6 k)], (SS b c), I, J, 0, 0)
  refine r_iret okX2_peopleOf rfl rfl rfl (Nat.le_refl _) (Nat.le_refl _) ?_
  exact ⟨rfl, rfl, rfl, rfl⟩
theorem o_cellsOf (γ : GE) {b c : Bool} {I : AI} {J : AJ} {k : Nat} (hk : k < 8) : Ct γ mX2_cellsOf 0 0 0 [.ref 1, .int (nI k)] (SS b c) I J (rR (8 + k) (SS b c) I J) := by
  refine ct_of okX2_cellsOf (L := [some (.ref 1), some (.int (nI k))]) (Nat.le_of_ble_eq_true rfl) rfl ?_
  refine r_run okX2_cellsOf 3 (cs := []) (σ' := (5, [some (.ref 1), some (.int (nI k))], [.int (nI k), .ref 5], (SS b c), I, J, 0, 0)) rfl trivial ?_
  refine r_aald okX2_cellsOf rfl rfl (vin hk (by decide)) (by first | exact Or.inl rfl | exact Or.inr rfl) (L5 k hk) ?_
  show Rj _ _ _ _ _ _ (6, [some (.ref 1), some (.int (nI k))], [.ref (8 + k)], (SS b c), I, J, 0, 0)
  refine r_aret okX2_cellsOf rfl rfl (Or.inl ⟨_, rfl⟩) (Nat.le_refl _) (Nat.le_refl _) ?_
  exact ⟨rfl, rfl, rfl, rfl⟩
theorem lp_pob (γ : GE) {b c : Bool} {I : AI} {J : AJ} (z : Int32) : ∀ (j q : Nat), q + j = 8 → Rj γ mX2_peopleOfBox 0 0 0 (rI (smB (I 6) (onB z) 8) (SS b c) I J) (4, [some (.ref 1), some (.int z), some (.int (smB (I 6) (onB z) q)), some (.int (nI q))], [], (SS b c), I, J, 0, 0) := by
  intro j
  induction j with
  | zero =>
    intro q  hj
    refine r_run okX2_peopleOfBox 2 (cs := []) (σ' := (7, [some (.ref 1), some (.int z), some (.int (smB (I 6) (onB z) q)), some (.int (nI q))], [.int 8, .int (nI q)], (SS b c), I, J, 0, 0)) rfl trivial ?_
    refine r_icmp okX2_peopleOfBox rfl (fun (h7 : (8 : Int32) ≤ (nI q)) => ?_) (fun (h7 : ¬ (8 : Int32) ≤ (nI q)) => ?_)
    · refine r_run okX2_peopleOfBox 1 (cs := []) (σ' := (34, [some (.ref 1), some (.int z), some (.int (smB (I 6) (onB z) q)), some (.int (nI q))], [.int (smB (I 6) (onB z) q)], (SS b c), I, J, 0, 0)) rfl trivial ?_
      refine r_iret okX2_peopleOfBox rfl rfl rfl (Nat.le_refl _) (Nat.le_refl _) ?_
      have e : q = 8 := by omega
      subst e
      exact ⟨rfl, rfl, rfl, rfl⟩
    · exact absurd (nI_le (a := 8) (b := q) (by omega) (by omega)) h7
  | succ j ih =>
    intro q  hj
    have cq : (nI q).toNatClampNeg = q := nI_clamp (by omega)
    refine r_run okX2_peopleOfBox 2 (cs := []) (σ' := (7, [some (.ref 1), some (.int z), some (.int (smB (I 6) (onB z) q)), some (.int (nI q))], [.int 8, .int (nI q)], (SS b c), I, J, 0, 0)) rfl trivial ?_
    refine r_icmp okX2_peopleOfBox rfl (fun (h7 : (8 : Int32) ≤ (nI q)) => ?_) (fun (h7 : ¬ (8 : Int32) ≤ (nI q)) => ?_)
    · exact absurd h7 (nI_ge (a := q) (b := 8) (by omega) (by decide))
    · refine r_run okX2_peopleOfBox 5 (cs := []) (σ' := (15, [some (.ref 1), some (.int z), some (.int (smB (I 6) (onB z) q)), some (.int (nI q))], [.int ((z >>> ((nI q) &&& 31)) &&& 1)], (SS b c), I, J, 0, 0)) rfl trivial ?_
      refine r_ifc okX2_peopleOfBox rfl (fun (h15 : ((z >>> ((nI q) &&& 31)) &&& 1) = (0 : Int32)) => ?_) (fun (h15 : ¬ ((z >>> ((nI q) &&& 31)) &&& 1) = (0 : Int32)) => ?_)
      · refine r_run okX2_peopleOfBox 2 (cs := []) (σ' := (4, [some (.ref 1), some (.int z), some (.int (smB (I 6) (onB z) q)), some (.int ((nI q) + 1))], [], (SS b c), I, J, 0, 0)) rfl trivial ?_
        rw [← nI_succ]
        have h := ih (q + 1) (by omega)
        rw [show smB (I 6) (onB z) (q + 1) = smB (I 6) (onB z) q by rw [smB, if_neg (by rw [onB, on_0.mp h15]; decide)]] at h
        exact h
      · refine r_run okX2_peopleOfBox 9 (cs := [vp_in (nI q) 8]) (σ' := (4, [some (.ref 1), some (.int z), some (.int ((smB (I 6) (onB z) q) + (I 6 ((nI q).toNatClampNeg)))), some (.int ((nI q) + 1))], [], (SS b c), I, J, 0, 0)) rfl ⟨(vin (by omega) (by decide)), trivial⟩ ?_
        simp only [cq]
        show Rj _ _ _ _ _ _ (4, [some (.ref 1), some (.int z), some (.int ((smB (I 6) (onB z) q) + (I 6 q))), some (.int ((nI q) + 1))], [], (SS b c), I, J, 0, 0)
        rw [← nI_succ]
        have h := ih (q + 1) (by omega)
        rw [show smB (I 6) (onB z) (q + 1) = smB (I 6) (onB z) q + I 6 q by rw [smB, if_pos (by rw [onB]; exact on_1.mp h15)]] at h
        exact h
theorem o_peopleOfBox (γ : GE) {b c : Bool} {I : AI} {J : AJ} (z : Int32) : Ct γ mX2_peopleOfBox 0 0 0 [.ref 1, .int z] (SS b c) I J (rI (smB (I 6) (onB z) 8) (SS b c) I J) := by
  refine ct_of okX2_peopleOfBox (L := [some (.ref 1), some (.int z), none, none]) (Nat.le_of_ble_eq_true rfl) rfl ?_
  refine r_run okX2_peopleOfBox 4 (cs := []) (σ' := (4, [some (.ref 1), some (.int z), some (.int 0), some (.int 0)], [], (SS b c), I, J, 0, 0)) rfl trivial ?_
  exact lp_pob γ z 8 0 (by omega)
theorem lp_peopleIn (γ : GE) {b c : Bool} {I : AI} {J : AJ} (hL : OLd I) {a : Nat} (ha : (SS b c)[a]? = some csh) {f : Nat → Bool} (hc : cs J a f) : ∀ (j q : Nat), q + j = 96 → Rj γ mX2_peopleIn 1 0 0 (rI (smB (I 102) f 96) (SS b c) I J) (4, [some (.ref 1), some (.ref a), some (.int (smB (I 102) f q)), some (.int (nI q))], [], (SS b c), I, J, 0, 0) := by
  intro j
  induction j with
  | zero =>
    intro q  hj
    refine r_run okX2_peopleIn 2 (cs := []) (σ' := (7, [some (.ref 1), some (.ref a), some (.int (smB (I 102) f q)), some (.int (nI q))], [.int 96, .int (nI q)], (SS b c), I, J, 0, 0)) rfl trivial ?_
    refine r_icmp okX2_peopleIn rfl (fun (h7 : (96 : Int32) ≤ (nI q)) => ?_) (fun (h7 : ¬ (96 : Int32) ≤ (nI q)) => ?_)
    · refine r_run okX2_peopleIn 1 (cs := []) (σ' := (34, [some (.ref 1), some (.ref a), some (.int (smB (I 102) f q)), some (.int (nI q))], [.int (smB (I 102) f q)], (SS b c), I, J, 0, 0)) rfl trivial ?_
      refine r_iret okX2_peopleIn rfl rfl rfl (Nat.le_refl _) (Nat.le_refl _) ?_
      have e : q = 96 := by omega
      subst e
      exact ⟨rfl, rfl, rfl, rfl⟩
    · exact absurd (nI_le (a := 96) (b := q) (by omega) (by omega)) h7
  | succ j ih =>
    intro q  hj
    have cq : (nI q).toNatClampNeg = q := nI_clamp (by omega)
    have e3 := (hL q (by omega)).2.1
    have e2 := (hL q (by omega)).1
    refine r_run okX2_peopleIn 2 (cs := []) (σ' := (7, [some (.ref 1), some (.ref a), some (.int (smB (I 102) f q)), some (.int (nI q))], [.int 96, .int (nI q)], (SS b c), I, J, 0, 0)) rfl trivial ?_
    refine r_icmp okX2_peopleIn rfl (fun (h7 : (96 : Int32) ≤ (nI q)) => ?_) (fun (h7 : ¬ (96 : Int32) ≤ (nI q)) => ?_)
    · exact absurd h7 (nI_ge (a := q) (b := 96) (by omega) (by decide))
    · refine r_run okX2_peopleIn 2 (cs := []) (σ' := (12, [some (.ref 1), some (.ref a), some (.int (smB (I 102) f q)), some (.int (nI q))], [.int (nI q), .ref a], (SS b c), I, J, 0, 0)) rfl trivial ?_
      refine r_callV okX2_peopleIn okX0_has [.int (nI q)] [] a rfl rfl rfl kkX0_has rfl rfl (by decide) ha rfl rfl (by decide) ⟨Nat.le_refl _, Nat.le_refl _⟩ (Nat.le_of_ble_eq_true rfl) (a_has γ ha hc (x := q) (by omega) rfl) (fun v1 S1 I1 J1 hp => ?_)
      obtain ⟨rfl, rfl, rfl, rfl⟩ := hp
      show Rj _ _ _ _ _ _ (15, [some (.ref 1), some (.ref a), some (.int (smB (I 102) f q)), some (.int (nI q))], [.int (bi (f q))], (SS b c), I, J, 0, 0)
      refine r_ifc okX2_peopleIn rfl (fun (h15 : (bi (f q)) = (0 : Int32)) => ?_) (fun (h15 : ¬ (bi (f q)) = (0 : Int32)) => ?_)
      · refine r_run okX2_peopleIn 2 (cs := []) (σ' := (4, [some (.ref 1), some (.ref a), some (.int (smB (I 102) f q)), some (.int ((nI q) + 1))], [], (SS b c), I, J, 0, 0)) rfl trivial ?_
        rw [← nI_succ]
        have h := ih (q + 1) (by omega)
        rw [show smB (I 102) f (q + 1) = smB (I 102) f q by rw [smB, if_neg (by rw [bi_0.mp h15]; decide)]] at h
        exact h
      · refine r_run okX2_peopleIn 9 (cs := [vp_in (nI q) 96]) (σ' := (4, [some (.ref 1), some (.ref a), some (.int ((smB (I 102) f q) + (I 3 ((nI q).toNatClampNeg)))), some (.int ((nI q) + 1))], [], (SS b c), I, J, 0, 0)) rfl ⟨(vin (by omega) (by decide)), trivial⟩ ?_
        simp only [cq, e3]
        show Rj _ _ _ _ _ _ (4, [some (.ref 1), some (.ref a), some (.int ((smB (I 102) f q) + (I 102 q))), some (.int ((nI q) + 1))], [], (SS b c), I, J, 0, 0)
        rw [← nI_succ]
        have h := ih (q + 1) (by omega)
        rw [show smB (I 102) f (q + 1) = smB (I 102) f q + I 102 q by rw [smB, if_pos (bi_n0.mp h15)]] at h
        exact h
theorem o_peopleIn (γ : GE) {b c : Bool} {I : AI} {J : AJ} (hL : OLd I) {a : Nat} (ha : (SS b c)[a]? = some csh) {f : Nat → Bool} (hc : cs J a f) : Ct γ mX2_peopleIn 1 0 0 [.ref 1, .ref a] (SS b c) I J (rI (smB (I 102) f 96) (SS b c) I J) := by
  refine ct_of okX2_peopleIn (L := [some (.ref 1), some (.ref a), none, none]) (Nat.le_of_ble_eq_true rfl) rfl ?_
  refine r_run okX2_peopleIn 4 (cs := []) (σ' := (4, [some (.ref 1), some (.ref a), some (.int 0), some (.int 0)], [], (SS b c), I, J, 0, 0)) rfl trivial ?_
  exact lp_peopleIn γ hL ha hc 96 0 (by omega)
theorem lp_cwp (γ : GE) {b c : Bool} {I : AI} {J : AJ} (hL : OLd I) {a : Nat} (ha : (SS b c)[a]? = some csh) {f : Nat → Bool} (hc : cs J a f) : ∀ (j q : Nat), q + j = 96 → Rj γ mX2_countiesWithPeopleIn 1 0 0 (rI (cwp I f 96) (SS b c) I J) (4, [some (.ref 1), some (.ref a), some (.int (cwp I f q)), some (.int (nI q))], [], (SS b c), I, J, 0, 0) := by
  intro j
  induction j with
  | zero =>
    intro q  hj
    refine r_run okX2_countiesWithPeopleIn 2 (cs := []) (σ' := (7, [some (.ref 1), some (.ref a), some (.int (cwp I f q)), some (.int (nI q))], [.int 96, .int (nI q)], (SS b c), I, J, 0, 0)) rfl trivial ?_
    refine r_icmp okX2_countiesWithPeopleIn rfl (fun (h7 : (96 : Int32) ≤ (nI q)) => ?_) (fun (h7 : ¬ (96 : Int32) ≤ (nI q)) => ?_)
    · refine r_run okX2_countiesWithPeopleIn 1 (cs := []) (σ' := (45, [some (.ref 1), some (.ref a), some (.int (cwp I f q)), some (.int (nI q))], [.int (cwp I f q)], (SS b c), I, J, 0, 0)) rfl trivial ?_
      refine r_iret okX2_countiesWithPeopleIn rfl rfl rfl (Nat.le_refl _) (Nat.le_refl _) ?_
      have e : q = 96 := by omega
      subst e
      exact ⟨rfl, rfl, rfl, rfl⟩
    · exact absurd (nI_le (a := 96) (b := q) (by omega) (by omega)) h7
  | succ j ih =>
    intro q  hj
    have cq : (nI q).toNatClampNeg = q := nI_clamp (by omega)
    have e3 := (hL q (by omega)).2.1
    have e2 := (hL q (by omega)).1
    refine r_run okX2_countiesWithPeopleIn 2 (cs := []) (σ' := (7, [some (.ref 1), some (.ref a), some (.int (cwp I f q)), some (.int (nI q))], [.int 96, .int (nI q)], (SS b c), I, J, 0, 0)) rfl trivial ?_
    refine r_icmp okX2_countiesWithPeopleIn rfl (fun (h7 : (96 : Int32) ≤ (nI q)) => ?_) (fun (h7 : ¬ (96 : Int32) ≤ (nI q)) => ?_)
    · exact absurd h7 (nI_ge (a := q) (b := 96) (by omega) (by decide))
    · refine r_run okX2_countiesWithPeopleIn 4 (cs := [vp_in (nI q) 96]) (σ' := (16, [some (.ref 1), some (.ref a), some (.int (cwp I f q)), some (.int (nI q))], [.int (I 3 ((nI q).toNatClampNeg))], (SS b c), I, J, 0, 0)) rfl ⟨(vin (by omega) (by decide)), trivial⟩ ?_
      simp only [cq, e3]
      show Rj _ _ _ _ _ _ (16, [some (.ref 1), some (.ref a), some (.int (cwp I f q)), some (.int (nI q))], [.int (I 102 q)], (SS b c), I, J, 0, 0)
      refine r_ifc okX2_countiesWithPeopleIn rfl (fun (h16 : (I 102 q) ≤ (0 : Int32)) => ?_) (fun (h16 : ¬ (I 102 q) ≤ (0 : Int32)) => ?_)
      · refine r_run okX2_countiesWithPeopleIn 2 (cs := []) (σ' := (4, [some (.ref 1), some (.ref a), some (.int (cwp I f q)), some (.int ((nI q) + 1))], [], (SS b c), I, J, 0, 0)) rfl trivial ?_
        rw [← nI_succ]
        have h := ih (q + 1) (by omega)
        rw [show cwp I f (q + 1) = cwp I f q by rw [cwp, if_neg (by rw [decide_eq_false (Int32.not_lt.mpr h16)]; simp)]] at h
        exact h
      · refine r_run okX2_countiesWithPeopleIn 2 (cs := []) (σ' := (21, [some (.ref 1), some (.ref a), some (.int (cwp I f q)), some (.int (nI q))], [.int (nI q), .ref a], (SS b c), I, J, 0, 0)) rfl trivial ?_
        refine r_callV okX2_countiesWithPeopleIn okX0_has [.int (nI q)] [] a rfl rfl rfl kkX0_has rfl rfl (by decide) ha rfl rfl (by decide) ⟨Nat.le_refl _, Nat.le_refl _⟩ (Nat.le_of_ble_eq_true rfl) (a_has γ ha hc (x := q) (by omega) rfl) (fun v1 S1 I1 J1 hp => ?_)
        obtain ⟨rfl, rfl, rfl, rfl⟩ := hp
        show Rj _ _ _ _ _ _ (24, [some (.ref 1), some (.ref a), some (.int (cwp I f q)), some (.int (nI q))], [.int (bi (f q))], (SS b c), I, J, 0, 0)
        refine r_ifc okX2_countiesWithPeopleIn rfl (fun (h24 : (bi (f q)) = (0 : Int32)) => ?_) (fun (h24 : ¬ (bi (f q)) = (0 : Int32)) => ?_)
        · refine r_run okX2_countiesWithPeopleIn 2 (cs := []) (σ' := (4, [some (.ref 1), some (.ref a), some (.int (cwp I f q)), some (.int ((nI q) + 1))], [], (SS b c), I, J, 0, 0)) rfl trivial ?_
          rw [← nI_succ]
          have h := ih (q + 1) (by omega)
          rw [show cwp I f (q + 1) = cwp I f q by rw [cwp, if_neg (by rw [bi_0.mp h24]; simp)]] at h
          exact h
        · refine r_run okX2_countiesWithPeopleIn 11 (cs := [vp_in (nI q) 96]) (σ' := (4, [some (.ref 1), some (.ref a), some (.int ((cwp I f q) ||| ((1 : Int32) <<< ((I 2 ((nI q).toNatClampNeg)) &&& 31)))), some (.int ((nI q) + 1))], [], (SS b c), I, J, 0, 0)) rfl ⟨(vin (by omega) (by decide)), trivial⟩ ?_
          simp only [cq, e2]
          show Rj _ _ _ _ _ _ (4, [some (.ref 1), some (.ref a), some (.int ((cwp I f q) ||| ((1 : Int32) <<< ((I 101 q) &&& 31)))), some (.int ((nI q) + 1))], [], (SS b c), I, J, 0, 0)
          rw [← nI_succ]
          have h := ih (q + 1) (by omega)
          rw [show cwp I f (q + 1) = cwp I f q ||| ((1 : Int32) <<< (I 101 q &&& 31)) by rw [cwp, if_pos (by rw [bi_n0.mp h24, decide_eq_true (Int32.not_le.mp h16)]; rfl)]] at h
          exact h
theorem o_cwp (γ : GE) {b c : Bool} {I : AI} {J : AJ} (hL : OLd I) {a : Nat} (ha : (SS b c)[a]? = some csh) {f : Nat → Bool} (hc : cs J a f) : Ct γ mX2_countiesWithPeopleIn 1 0 0 [.ref 1, .ref a] (SS b c) I J (rI (cwp I f 96) (SS b c) I J) := by
  refine ct_of okX2_countiesWithPeopleIn (L := [some (.ref 1), some (.ref a), none, none]) (Nat.le_of_ble_eq_true rfl) rfl ?_
  refine r_run okX2_countiesWithPeopleIn 4 (cs := []) (σ' := (4, [some (.ref 1), some (.ref a), some (.int 0), some (.int 0)], [], (SS b c), I, J, 0, 0)) rfl trivial ?_
  exact lp_cwp γ hL ha hc 96 0 (by omega)
theorem lp_harm (γ : GE) {b c : Bool} {I : AI} {J : AJ} (hL : OLd I) {a : Nat} (ha : (SS b c)[a]? = some csh) (z : Int32) : ∀ (j q : Nat) (J0 : AJ), q + j = 96 → kJ [a] J J0 → cs J0 a (fun x => decide (x < q) && in0 I z x) → Rj γ mX2_fillHarmless 2 0 0 (rS (SS b c) I J a (in0 I z)) (6, [some (.ref 1), some (.int z), some (.ref a), some (.int (nI q))], [], (SS b c), I, J0, 0, 0) := by
  intro j
  induction j with
  | zero =>
    intro q J0 hj hk hc
    refine r_run okX2_fillHarmless 2 (cs := []) (σ' := (9, [some (.ref 1), some (.int z), some (.ref a), some (.int (nI q))], [.int 96, .int (nI q)], (SS b c), I, J0, 0, 0)) rfl trivial ?_
    refine r_icmp okX2_fillHarmless rfl (fun (h9 : (96 : Int32) ≤ (nI q)) => ?_) (fun (h9 : ¬ (96 : Int32) ≤ (nI q)) => ?_)
    · refine r_vret okX2_fillHarmless rfl rfl (Nat.le_refl _) (Nat.le_refl _) ?_
      have e : q = 96 := by omega
      subst e
      exact ⟨rfl, rfl, rfl, _, rfl, hk, cs_f (fun x hx => by rw [decide_eq_true hx, Bool.true_and]) hc⟩
    · exact absurd (nI_le (a := 96) (b := q) (by omega) (by omega)) h9
  | succ j ih =>
    intro q J0 hj hk hc
    have cq : (nI q).toNatClampNeg = q := nI_clamp (by omega)
    have e3 := (hL q (by omega)).2.1
    have e2 := (hL q (by omega)).1
    refine r_run okX2_fillHarmless 2 (cs := []) (σ' := (9, [some (.ref 1), some (.int z), some (.ref a), some (.int (nI q))], [.int 96, .int (nI q)], (SS b c), I, J0, 0, 0)) rfl trivial ?_
    refine r_icmp okX2_fillHarmless rfl (fun (h9 : (96 : Int32) ≤ (nI q)) => ?_) (fun (h9 : ¬ (96 : Int32) ≤ (nI q)) => ?_)
    · exact absurd h9 (nI_ge (a := q) (b := 96) (by omega) (by decide))
    · refine r_run okX2_fillHarmless 4 (cs := [vp_in (nI q) 96]) (σ' := (18, [some (.ref 1), some (.int z), some (.ref a), some (.int (nI q))], [.int (I 3 ((nI q).toNatClampNeg))], (SS b c), I, J0, 0, 0)) rfl ⟨(vin (by omega) (by decide)), trivial⟩ ?_
      simp only [cq, e3]
      show Rj _ _ _ _ _ _ (18, [some (.ref 1), some (.int z), some (.ref a), some (.int (nI q))], [.int (I 102 q)], (SS b c), I, J0, 0, 0)
      refine r_ifc okX2_fillHarmless rfl (fun (h18 : (I 102 q) = (0 : Int32)) => ?_) (fun (h18 : ¬ (I 102 q) = (0 : Int32)) => ?_)
      · refine r_run okX2_fillHarmless 3 (cs := []) (σ' := (37, [some (.ref 1), some (.int z), some (.ref a), some (.int (nI q))], [.int 1, .int (nI q), .ref a], (SS b c), I, J0, 0, 0)) rfl trivial ?_
        refine r_callV okX2_fillHarmless okX0_set [.int (nI q), .int 1] [] a rfl rfl rfl kkX0_set rfl rfl (by decide) ha rfl rfl (by decide) ⟨Nat.le_refl _, Nat.le_refl _⟩ (Nat.le_of_ble_eq_true rfl) (a_set γ ha hc (x := q) (by omega) rfl true rfl) (fun v1 S1 I1 J1 hp => ?_)
        obtain ⟨rfl, rfl, rfl, J1, rfl, k1, c1⟩ := hp
        show Rj _ _ _ _ _ _ (40, [some (.ref 1), some (.int z), some (.ref a), some (.int (nI q))], [], (SS b c), I, J1, 0, 0)
        refine r_run okX2_fillHarmless 2 (cs := []) (σ' := (6, [some (.ref 1), some (.int z), some (.ref a), some (.int ((nI q) + 1))], [], (SS b c), I, J1, 0, 0)) rfl trivial ?_
        rw [← nI_succ]
        have hin : in0 I z q = true := by unfold in0; rw [decide_eq_true h18]; rfl
        refine ih (q + 1) J1 (by omega) (kJ_t hk k1) (cs_f (fun x hx => ?_) c1)
        by_cases e : x = q
        · subst e; rw [hin]; simp
        · have e1 : (x < q + 1) = (x < q) := by apply propext; omega
          simp [e, e1]
      · refine r_run okX2_fillHarmless 8 (cs := [vp_in (nI q) 96]) (σ' := (31, [some (.ref 1), some (.int z), some (.ref a), some (.int (nI q))], [.int ((z >>> ((I 2 ((nI q).toNatClampNeg)) &&& 31)) &&& 1)], (SS b c), I, J0, 0, 0)) rfl ⟨(vin (by omega) (by decide)), trivial⟩ ?_
        simp only [cq, e2]
        show Rj _ _ _ _ _ _ (31, [some (.ref 1), some (.int z), some (.ref a), some (.int (nI q))], [.int ((z >>> ((I 101 q) &&& 31)) &&& 1)], (SS b c), I, J0, 0, 0)
        refine r_ifc okX2_fillHarmless rfl (fun (h31 : ((z >>> ((I 101 q) &&& 31)) &&& 1) = (0 : Int32)) => ?_) (fun (h31 : ¬ ((z >>> ((I 101 q) &&& 31)) &&& 1) = (0 : Int32)) => ?_)
        · refine r_run okX2_fillHarmless 2 (cs := []) (σ' := (6, [some (.ref 1), some (.int z), some (.ref a), some (.int ((nI q) + 1))], [], (SS b c), I, J0, 0, 0)) rfl trivial ?_
          rw [← nI_succ]
          have hin : in0 I z q = false := by unfold in0; rw [decide_eq_false h18, on_0.mp h31]; rfl
          refine ih (q + 1) J0 (by omega) hk (cs_f (fun x hx => ?_) hc)
          by_cases e : x = q
          · subst e; rw [hin]; simp
          · have e1 : (x < q + 1) = (x < q) := by apply propext; omega
            simp [e, e1]
        · refine r_run okX2_fillHarmless 3 (cs := []) (σ' := (37, [some (.ref 1), some (.int z), some (.ref a), some (.int (nI q))], [.int 1, .int (nI q), .ref a], (SS b c), I, J0, 0, 0)) rfl trivial ?_
          refine r_callV okX2_fillHarmless okX0_set [.int (nI q), .int 1] [] a rfl rfl rfl kkX0_set rfl rfl (by decide) ha rfl rfl (by decide) ⟨Nat.le_refl _, Nat.le_refl _⟩ (Nat.le_of_ble_eq_true rfl) (a_set γ ha hc (x := q) (by omega) rfl true rfl) (fun v1 S1 I1 J1 hp => ?_)
          obtain ⟨rfl, rfl, rfl, J2, rfl, k2, c2⟩ := hp
          show Rj _ _ _ _ _ _ (40, [some (.ref 1), some (.int z), some (.ref a), some (.int (nI q))], [], (SS b c), I, J2, 0, 0)
          refine r_run okX2_fillHarmless 2 (cs := []) (σ' := (6, [some (.ref 1), some (.int z), some (.ref a), some (.int ((nI q) + 1))], [], (SS b c), I, J2, 0, 0)) rfl trivial ?_
          rw [← nI_succ]
          have hin : in0 I z q = true := by unfold in0; rw [on_1.mp h31, Bool.or_true]
          refine ih (q + 1) J2 (by omega) (kJ_t hk k2) (cs_f (fun x hx => ?_) c2)
          by_cases e : x = q
          · subst e; rw [hin]; simp
          · have e1 : (x < q + 1) = (x < q) := by apply propext; omega
            simp [e, e1]
theorem o_fillHarmless (γ : GE) {b c : Bool} {I : AI} {J : AJ} (hL : OLd I) {a : Nat} (ha : (SS b c)[a]? = some csh) (z : Int32) : Ct γ mX2_fillHarmless 2 0 0 [.ref 1, .int z, .ref a] (SS b c) I J (rS (SS b c) I J a (in0 I z)) := by
  refine ct_of okX2_fillHarmless (L := [some (.ref 1), some (.int z), some (.ref a), none]) (Nat.le_of_ble_eq_true rfl) rfl ?_
  refine r_run okX2_fillHarmless 1 (cs := []) (σ' := (1, [some (.ref 1), some (.int z), some (.ref a), none], [.ref a], (SS b c), I, J, 0, 0)) rfl trivial ?_
  refine r_callV okX2_fillHarmless okX0_clear [] [] a rfl rfl rfl kkX0_clear rfl rfl (by decide) ha rfl rfl (by decide) ⟨Nat.le_refl _, Nat.le_refl _⟩ (Nat.le_of_ble_eq_true rfl) (a_clear γ ha) (fun v1 S1 I1 J1 hp => ?_)
  obtain ⟨rfl, rfl, rfl, J1, rfl, k1, c1⟩ := hp
  show Rj _ _ _ _ _ _ (4, [some (.ref 1), some (.int z), some (.ref a), none], [], (SS b c), I, J1, 0, 0)
  refine r_run okX2_fillHarmless 2 (cs := []) (σ' := (6, [some (.ref 1), some (.int z), some (.ref a), some (.int 0)], [], (SS b c), I, J1, 0, 0)) rfl trivial ?_
  refine lp_harm γ hL ha z 96 0 J1 (by omega) k1 (cs_f (fun x _ => ?_) c1)
  simp
def setJ (J : AJ) (a x : Nat) (z : Bool) : AJ := ldJ J a (setLo (J a 0) (nI x) z) (setHi (J a 1) (nI x) z)
def stlI (I : AI) (x k0 k : Nat) (n s : Int32) : AI := upI (upI (upI (upI (upI I 6 k0 (I 6 k0 - I 3 x)) 2 x (nI k)) 3 x n) 4 x s) 6 k ((upI I 6 k0 (I 6 k0 - I 3 x)) 6 k + n)
theorem o_settle (γ : GE) {b c : Bool} {I : AI} {J : AJ} {x k0 k : Nat} (hx : x < 96) (hk0 : k0 < 8) (hk : k < 8) (e0 : I 2 x = nI k0) (n s : Int32) : Ct γ mX2_settle 1 0 0 [.ref 1, .int (nI x), .int (nI k), .int n, .int s] (SS b c) I J (rV (SS b c) (stlI I x k0 k n s) (setJ (setJ J (8 + k0) x false) (8 + k) x true)) := by
  have cx : (nI x).toNatClampNeg = x := nI_clamp (by omega)
  have ck0 : (nI k0).toNatClampNeg = k0 := nI_clamp (by omega)
  have ck : (nI k).toNatClampNeg = k := nI_clamp (by omega)
  refine ct_of okX2_settle (L := [some (.ref 1), some (.int (nI x)), some (.int (nI k)), some (.int n), some (.int s)]) (Nat.le_of_ble_eq_true rfl) rfl ?_
  refine r_run okX2_settle 6 (cs := [vp_in (nI x) 96]) (σ' := (10, [some (.ref 1), some (.int (nI x)), some (.int (nI k)), some (.int n), some (.int s)], [.int (I 2 ((nI x).toNatClampNeg)), .ref 5], (SS b c), I, J, 0, 0)) rfl ⟨(vin hx (by decide)), trivial⟩ ?_
  simp only [cx, e0]
  show Rj _ _ _ _ _ _ (10, [some (.ref 1), some (.int (nI x)), some (.int (nI k)), some (.int n), some (.int s)], [.int (nI k0), .ref 5], (SS b c), I, J, 0, 0)
  refine r_aald okX2_settle rfl rfl (vin hk0 (by decide)) (by first | exact Or.inl rfl | exact Or.inr rfl) (L5 k0 hk0) ?_
  show Rj _ _ _ _ _ _ (11, [some (.ref 1), some (.int (nI x)), some (.int (nI k)), some (.int n), some (.int s)], [.ref (8 + k0)], (SS b c), I, J, 0, 0)
  refine r_run okX2_settle 2 (cs := []) (σ' := (13, [some (.ref 1), some (.int (nI x)), some (.int (nI k)), some (.int n), some (.int s)], [.int 0, .int (nI x), .ref (8 + k0)], (SS b c), I, J, 0, 0)) rfl trivial ?_
  refine r_callV okX2_settle okX0_set [.int (nI x), .int 0] [] (8 + k0) rfl rfl rfl kkX0_set rfl rfl (by decide) (SSm hk0) rfl rfl (by decide) ⟨Nat.le_refl _, Nat.le_refl _⟩ (Nat.le_of_ble_eq_true rfl) (c_X0_set γ (SSm hk0) (nI x) false) (fun v1 S1 I1 J1 hp => ?_)
  obtain ⟨rfl, rfl, rfl, rfl⟩ := hp
  show Rj _ _ _ _ _ _ (16, [some (.ref 1), some (.int (nI x)), some (.int (nI k)), some (.int n), some (.int s)], [], (SS b c), I, (ldJ J (8 + k0) (setLo (J (8 + k0) 0) (nI x) false) (setHi (J (8 + k0) 1) (nI x) false)), 0, 0)
  refine r_run okX2_settle 32 (cs := [vp_in (nI x) 96, vp_in (I 2 ((nI x).toNatClampNeg)) 8, vp_in (nI x) 96, vp_in (I 2 ((nI x).toNatClampNeg)) 8, vp_in (nI x) 96, vp_in (nI x) 96, vp_in (nI x) 96]) (σ' := (63, [some (.ref 1), some (.int (nI x)), some (.int (nI k)), some (.int n), some (.int s)], [.int (nI k), .ref 5], (SS b c), (upI (upI (upI (upI I 6 ((I 2 ((nI x).toNatClampNeg)).toNatClampNeg) ((I 6 ((I 2 ((nI x).toNatClampNeg)).toNatClampNeg)) - (I 3 ((nI x).toNatClampNeg)))) 2 ((nI x).toNatClampNeg) (nI k)) 3 ((nI x).toNatClampNeg) n) 4 ((nI x).toNatClampNeg) s), (ldJ J (8 + k0) (setLo (J (8 + k0) 0) (nI x) false) (setHi (J (8 + k0) 1) (nI x) false)), 0, 0)) rfl ⟨(vin hx (by decide)), (by rw [cx, e0]; exact vin hk0 (by decide)), (vin hx (by decide)), (by rw [cx, e0]; exact vin hk0 (by decide)), (vin hx (by decide)), (vin hx (by decide)), (vin hx (by decide)), trivial⟩ ?_
  simp only [cx, e0, ck0]
  show Rj _ _ _ _ _ _ (63, [some (.ref 1), some (.int (nI x)), some (.int (nI k)), some (.int n), some (.int s)], [.int (nI k), .ref 5], (SS b c), (upI (upI (upI (upI I 6 k0 ((I 6 k0) - (I 3 x))) 2 x (nI k)) 3 x n) 4 x s), (ldJ J (8 + k0) (setLo (J (8 + k0) 0) (nI x) false) (setHi (J (8 + k0) 1) (nI x) false)), 0, 0)
  refine r_aald okX2_settle rfl rfl (vin hk (by decide)) (by first | exact Or.inl rfl | exact Or.inr rfl) (L5 k hk) ?_
  show Rj _ _ _ _ _ _ (64, [some (.ref 1), some (.int (nI x)), some (.int (nI k)), some (.int n), some (.int s)], [.ref (8 + k)], (SS b c), (upI (upI (upI (upI I 6 k0 ((I 6 k0) - (I 3 x))) 2 x (nI k)) 3 x n) 4 x s), (ldJ J (8 + k0) (setLo (J (8 + k0) 0) (nI x) false) (setHi (J (8 + k0) 1) (nI x) false)), 0, 0)
  refine r_run okX2_settle 2 (cs := []) (σ' := (66, [some (.ref 1), some (.int (nI x)), some (.int (nI k)), some (.int n), some (.int s)], [.int 1, .int (nI x), .ref (8 + k)], (SS b c), (upI (upI (upI (upI I 6 k0 ((I 6 k0) - (I 3 x))) 2 x (nI k)) 3 x n) 4 x s), (ldJ J (8 + k0) (setLo (J (8 + k0) 0) (nI x) false) (setHi (J (8 + k0) 1) (nI x) false)), 0, 0)) rfl trivial ?_
  refine r_callV okX2_settle okX0_set [.int (nI x), .int 1] [] (8 + k) rfl rfl rfl kkX0_set rfl rfl (by decide) (SSm hk) rfl rfl (by decide) ⟨Nat.le_refl _, Nat.le_refl _⟩ (Nat.le_of_ble_eq_true rfl) (c_X0_set γ (SSm hk) (nI x) true) (fun v1 S1 I1 J1 hp => ?_)
  obtain ⟨rfl, rfl, rfl, rfl⟩ := hp
  show Rj _ _ _ _ _ _ (69, [some (.ref 1), some (.int (nI x)), some (.int (nI k)), some (.int n), some (.int s)], [], (SS b c), (upI (upI (upI (upI I 6 k0 ((I 6 k0) - (I 3 x))) 2 x (nI k)) 3 x n) 4 x s), (ldJ (ldJ J (8 + k0) (setLo (J (8 + k0) 0) (nI x) false) (setHi (J (8 + k0) 1) (nI x) false)) (8 + k) (setLo ((ldJ J (8 + k0) (setLo (J (8 + k0) 0) (nI x) false) (setHi (J (8 + k0) 1) (nI x) false)) (8 + k) 0) (nI x) true) (setHi ((ldJ J (8 + k0) (setLo (J (8 + k0) 0) (nI x) false) (setHi (J (8 + k0) 1) (nI x) false)) (8 + k) 1) (nI x) true)), 0, 0)
  refine r_run okX2_settle 8 (cs := [vp_in (nI k) 8, vp_in (nI k) 8]) (σ' := (79, [some (.ref 1), some (.int (nI x)), some (.int (nI k)), some (.int n), some (.int s)], [], (SS b c), (upI (upI (upI (upI (upI I 6 k0 ((I 6 k0) - (I 3 x))) 2 x (nI k)) 3 x n) 4 x s) 6 ((nI k).toNatClampNeg) (((upI I 6 k0 ((I 6 k0) - (I 3 x))) 6 ((nI k).toNatClampNeg)) + n)), (ldJ (ldJ J (8 + k0) (setLo (J (8 + k0) 0) (nI x) false) (setHi (J (8 + k0) 1) (nI x) false)) (8 + k) (setLo ((ldJ J (8 + k0) (setLo (J (8 + k0) 0) (nI x) false) (setHi (J (8 + k0) 1) (nI x) false)) (8 + k) 0) (nI x) true) (setHi ((ldJ J (8 + k0) (setLo (J (8 + k0) 0) (nI x) false) (setHi (J (8 + k0) 1) (nI x) false)) (8 + k) 1) (nI x) true)), 0, 0)) rfl ⟨(vin hk (by decide)), (vin hk (by decide)), trivial⟩ ?_
  simp only [ck]
  show Rj _ _ _ _ _ _ (79, [some (.ref 1), some (.int (nI x)), some (.int (nI k)), some (.int n), some (.int s)], [], (SS b c), (upI (upI (upI (upI (upI I 6 k0 ((I 6 k0) - (I 3 x))) 2 x (nI k)) 3 x n) 4 x s) 6 k (((upI I 6 k0 ((I 6 k0) - (I 3 x))) 6 k) + n)), (ldJ (ldJ J (8 + k0) (setLo (J (8 + k0) 0) (nI x) false) (setHi (J (8 + k0) 1) (nI x) false)) (8 + k) (setLo ((ldJ J (8 + k0) (setLo (J (8 + k0) 0) (nI x) false) (setHi (J (8 + k0) 1) (nI x) false)) (8 + k) 0) (nI x) true) (setHi ((ldJ J (8 + k0) (setLo (J (8 + k0) 0) (nI x) false) (setHi (J (8 + k0) 1) (nI x) false)) (8 + k) 1) (nI x) true)), 0, 0)
  refine r_vret okX2_settle rfl rfl (Nat.le_refl _) (Nat.le_refl _) ?_
  exact ⟨rfl, rfl, rfl, rfl⟩
