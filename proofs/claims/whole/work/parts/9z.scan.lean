/-! ===== the office reads: the tape into tokens ===== -/
def Tap (T : Nat → Int32) (n : Nat) (X : AI) : Prop := TpOK T n ∧ X 95 4 = nI n ∧ ∀ i, i < n → X 96 i = T i
theorem upI_2 {X : AI} {a k : Nat} {y z : Int32} : upI (upI X a k y) a k z = upI X a k z := by
  funext c d; unfold upI; split
  · split <;> rfl
  · rfl
theorem upI_same {X : AI} {a k : Nat} {v : Int32} (h : X a k = v) : upI X a k v = X := by rw [← h]; exact upI_id
theorem Tap_5 {T : Nat → Int32} {n : Nat} {X : AI} {v : Int32} (h : Tap T n X) : Tap T n (upI X 95 5 v) := ⟨h.1, (upI_n (by decide)).trans h.2.1, fun i hi => by rw [upI_ne (by decide)]; exact h.2.2 i hi⟩
theorem nI_sb {a b : Nat} (h : b ≤ a) : nI a - nI b = nI (a - b) := by
  have q : nI (a - b) + nI b = nI a := by rw [nI_ad]; congr 1; omega
  rw [← q]; exact Int32.add_sub_cancel _ _
theorem nI_ge' {n p : Nat} (h : n ≤ p) (hp : p < 2 ^ 31) : nI n ≤ nI p := nI_le h hp
def kwB (T : Nat → Int32) (a z k : Nat) : Bool := (List.range (z - a)).all (fun j => decide (WD (k + 1 + j) = T (a + j)))
theorem kwB_t {T : Nat → Int32} {a z k : Nat} (h : ∀ j, j < z - a → WD (k + 1 + j) = T (a + j)) : kwB T a z k = true := List.all_eq_true.mpr fun j hj => decide_eq_true (h j (List.mem_range.mp hj))
theorem kwB_f {T : Nat → Int32} {a z k j : Nat} (hj : j < z - a) (h : ¬ WD (k + 1 + j) = T (a + j)) : kwB T a z k = false := by
  cases e : kwB T a z k with
  | false => rfl
  | true => exact absurd (of_decide_eq_true (List.all_eq_true.mp e j (List.mem_range.mpr hj))) h
def kwV (v : Int32) : Int32 := if v = -1 then 18 else v
/-- the office's test of a word is the reference's -/
theorem wd_same {T : Nat → Int32} {a z w : Nat} (hw : w < 16) (hle : ∀ q, a ≤ q → q < z → leB (T q) = true) (haz : a ≤ z) : wdB T a z (spA w) = (decide (spA (w + 1) - 1 - spA w = z - a) && kwB T a z (spA w)) := by
  obtain ⟨h1, h2, h3, h4⟩ := spA_nx w hw
  by_cases e : spA (w + 1) - 1 - spA w = z - a
  · rw [decide_eq_true e, Bool.true_and]
    unfold wdB kwB
    rw [show spA w + 1 + (z - a) = spA (w + 1) by omega, h3, decide_eq_true rfl, Bool.and_true]
  · rw [decide_eq_false e, Bool.false_and]
    by_cases hl : z - a < spA (w + 1) - 1 - spA w
    · exact wdB_f2 (h4 _ (by omega) (by omega))
    · refine wdB_f1 (i := spA (w + 1) - 1 - spA w) (by omega) ?_
      rw [show spA w + 1 + (spA (w + 1) - 1 - spA w) = spA (w + 1) by omega, h3]
      exact fun q => le_n32 (hle _ (by omega) (by omega)) q.symm
theorem kwV_w {w : Nat} (h : w < 16) : kwV (nI w) = nI w := by unfold kwV; rw [if_neg (nI_m1 (by omega))]
theorem t_let (γ : GE) {S : List Sh} {I : AI} {J : AJ} (v : Int32) : Ct γ mX5_isLetter 0 0 0 [.int v] S I J (rI (bi (leB v)) S I J) := by
  refine ct_of okX5_isLetter (L := [some (.int v)]) (Nat.le_of_ble_eq_true rfl) rfl ?_
  refine r_run okX5_isLetter 2 (cs := []) (σ' := (3, [some (.int v)], [.int 97, .int v], S, I, J, 0, 0)) rfl trivial ?_
  refine r_icmp okX5_isLetter rfl (fun (h3 : v < (97 : Int32)) => ?_) (fun (h3 : ¬ v < (97 : Int32)) => ?_)
  · refine r_run okX5_isLetter 2 (cs := []) (σ' := (15, [some (.int v)], [.int 65, .int v], S, I, J, 0, 0)) rfl trivial ?_
    refine r_icmp okX5_isLetter rfl (fun (h15 : v < (65 : Int32)) => ?_) (fun (h15 : ¬ v < (65 : Int32)) => ?_)
    · refine r_run okX5_isLetter 1 (cs := []) (σ' := (29, [some (.int v)], [.int 0], S, I, J, 0, 0)) rfl trivial ?_
      refine r_iret okX5_isLetter rfl rfl (by decide +kernel) (Nat.le_refl _) (Nat.le_refl _) ?_
      have e1 : inB v 97 122 = false := Bool.eq_false_iff.mpr (fun q => absurd (inB_t.mp q).1 (Int32.not_le.mpr h3))
      have e2 : inB v 65 90 = false := Bool.eq_false_iff.mpr (fun q => absurd (inB_t.mp q).1 (Int32.not_le.mpr h15))
      have e : leB v = false := by unfold leB; rw [e1, e2]; rfl
      exact ⟨by rw [e]; rfl, rfl, rfl, rfl⟩
    · refine r_run okX5_isLetter 2 (cs := []) (σ' := (21, [some (.int v)], [.int 90, .int v], S, I, J, 0, 0)) rfl trivial ?_
      refine r_icmp okX5_isLetter rfl (fun (h21 : (90 : Int32) < v) => ?_) (fun (h21 : ¬ (90 : Int32) < v) => ?_)
      · refine r_run okX5_isLetter 1 (cs := []) (σ' := (29, [some (.int v)], [.int 0], S, I, J, 0, 0)) rfl trivial ?_
        refine r_iret okX5_isLetter rfl rfl (by decide +kernel) (Nat.le_refl _) (Nat.le_refl _) ?_
        have e1 : inB v 97 122 = false := Bool.eq_false_iff.mpr (fun q => absurd (inB_t.mp q).1 (Int32.not_le.mpr h3))
        have e2 : inB v 65 90 = false := Bool.eq_false_iff.mpr (fun q => absurd (inB_t.mp q).2 (Int32.not_le.mpr h21))
        have e : leB v = false := by unfold leB; rw [e1, e2]; rfl
        exact ⟨by rw [e]; rfl, rfl, rfl, rfl⟩
      · refine r_run okX5_isLetter 2 (cs := []) (σ' := (29, [some (.int v)], [.int 1], S, I, J, 0, 0)) rfl trivial ?_
        refine r_iret okX5_isLetter rfl rfl (by decide +kernel) (Nat.le_refl _) (Nat.le_refl _) ?_
        have e1 : inB v 97 122 = false := Bool.eq_false_iff.mpr (fun q => absurd (inB_t.mp q).1 (Int32.not_le.mpr h3))
        have e2 : inB v 65 90 = true := inB_t.mpr ⟨Int32.not_lt.mp h15, Int32.not_lt.mp h21⟩
        have e : leB v = true := by unfold leB; rw [e1, e2]; rfl
        exact ⟨by rw [e]; rfl, rfl, rfl, rfl⟩
  · refine r_run okX5_isLetter 2 (cs := []) (σ' := (9, [some (.int v)], [.int 122, .int v], S, I, J, 0, 0)) rfl trivial ?_
    refine r_icmp okX5_isLetter rfl (fun (h9 : v ≤ (122 : Int32)) => ?_) (fun (h9 : ¬ v ≤ (122 : Int32)) => ?_)
    · refine r_run okX5_isLetter 2 (cs := []) (σ' := (29, [some (.int v)], [.int 1], S, I, J, 0, 0)) rfl trivial ?_
      refine r_iret okX5_isLetter rfl rfl (by decide +kernel) (Nat.le_refl _) (Nat.le_refl _) ?_
      have e : leB v = true := by unfold leB; rw [inB_t.mpr ⟨Int32.not_lt.mp h3, h9⟩]; rfl
      exact ⟨by rw [e]; rfl, rfl, rfl, rfl⟩
    · refine r_run okX5_isLetter 2 (cs := []) (σ' := (15, [some (.int v)], [.int 65, .int v], S, I, J, 0, 0)) rfl trivial ?_
      refine r_icmp okX5_isLetter rfl (fun (h15_1 : v < (65 : Int32)) => ?_) (fun (h15_1 : ¬ v < (65 : Int32)) => ?_)
      · refine r_run okX5_isLetter 1 (cs := []) (σ' := (29, [some (.int v)], [.int 0], S, I, J, 0, 0)) rfl trivial ?_
        refine r_iret okX5_isLetter rfl rfl (by decide +kernel) (Nat.le_refl _) (Nat.le_refl _) ?_
        have e1 : inB v 97 122 = false := Bool.eq_false_iff.mpr (fun q => absurd (inB_t.mp q).2 h9)
        have e2 : inB v 65 90 = false := Bool.eq_false_iff.mpr (fun q => absurd (inB_t.mp q).1 (Int32.not_le.mpr h15_1))
        have e : leB v = false := by unfold leB; rw [e1, e2]; rfl
        exact ⟨by rw [e]; rfl, rfl, rfl, rfl⟩
      · refine r_run okX5_isLetter 2 (cs := []) (σ' := (21, [some (.int v)], [.int 90, .int v], S, I, J, 0, 0)) rfl trivial ?_
        refine r_icmp okX5_isLetter rfl (fun (h21_1 : (90 : Int32) < v) => ?_) (fun (h21_1 : ¬ (90 : Int32) < v) => ?_)
        · refine r_run okX5_isLetter 1 (cs := []) (σ' := (29, [some (.int v)], [.int 0], S, I, J, 0, 0)) rfl trivial ?_
          refine r_iret okX5_isLetter rfl rfl (by decide +kernel) (Nat.le_refl _) (Nat.le_refl _) ?_
          have e1 : inB v 97 122 = false := Bool.eq_false_iff.mpr (fun q => absurd (inB_t.mp q).2 h9)
          have e2 : inB v 65 90 = false := Bool.eq_false_iff.mpr (fun q => absurd (inB_t.mp q).2 (Int32.not_le.mpr h21_1))
          have e : leB v = false := by unfold leB; rw [e1, e2]; rfl
          exact ⟨by rw [e]; rfl, rfl, rfl, rfl⟩
        · refine r_run okX5_isLetter 2 (cs := []) (σ' := (29, [some (.int v)], [.int 1], S, I, J, 0, 0)) rfl trivial ?_
          refine r_iret okX5_isLetter rfl rfl (by decide +kernel) (Nat.le_refl _) (Nat.le_refl _) ?_
          have e1 : inB v 97 122 = false := Bool.eq_false_iff.mpr (fun q => absurd (inB_t.mp q).2 h9)
          have e2 : inB v 65 90 = true := inB_t.mpr ⟨Int32.not_lt.mp h15_1, Int32.not_lt.mp h21_1⟩
          have e : leB v = true := by unfold leB; rw [e1, e2]; rfl
          exact ⟨by rw [e]; rfl, rfl, rfl, rfl⟩
theorem t_dig (γ : GE) {S : List Sh} {I : AI} {J : AJ} (v : Int32) : Ct γ mX5_isDigit 0 0 0 [.int v] S I J (rI (bi (diB v)) S I J) := by
  refine ct_of okX5_isDigit (L := [some (.int v)]) (Nat.le_of_ble_eq_true rfl) rfl ?_
  refine r_run okX5_isDigit 2 (cs := []) (σ' := (3, [some (.int v)], [.int 48, .int v], S, I, J, 0, 0)) rfl trivial ?_
  refine r_icmp okX5_isDigit rfl (fun (h3 : v < (48 : Int32)) => ?_) (fun (h3 : ¬ v < (48 : Int32)) => ?_)
  · refine r_run okX5_isDigit 1 (cs := []) (σ' := (17, [some (.int v)], [.int 0], S, I, J, 0, 0)) rfl trivial ?_
    refine r_iret okX5_isDigit rfl rfl (by decide +kernel) (Nat.le_refl _) (Nat.le_refl _) ?_
    have e : diB v = false := Bool.eq_false_iff.mpr (fun q => absurd (inB_t.mp q).1 (Int32.not_le.mpr h3))
    exact ⟨by rw [e]; rfl, rfl, rfl, rfl⟩
  · refine r_run okX5_isDigit 2 (cs := []) (σ' := (9, [some (.int v)], [.int 57, .int v], S, I, J, 0, 0)) rfl trivial ?_
    refine r_icmp okX5_isDigit rfl (fun (h9 : (57 : Int32) < v) => ?_) (fun (h9 : ¬ (57 : Int32) < v) => ?_)
    · refine r_run okX5_isDigit 1 (cs := []) (σ' := (17, [some (.int v)], [.int 0], S, I, J, 0, 0)) rfl trivial ?_
      refine r_iret okX5_isDigit rfl rfl (by decide +kernel) (Nat.le_refl _) (Nat.le_refl _) ?_
      have e : diB v = false := Bool.eq_false_iff.mpr (fun q => absurd (inB_t.mp q).2 (Int32.not_le.mpr h9))
      exact ⟨by rw [e]; rfl, rfl, rfl, rfl⟩
    · refine r_run okX5_isDigit 2 (cs := []) (σ' := (17, [some (.int v)], [.int 1], S, I, J, 0, 0)) rfl trivial ?_
      refine r_iret okX5_isDigit rfl rfl (by decide +kernel) (Nat.le_refl _) (Nat.le_refl _) ?_
      have e : diB v = true := inB_t.mpr ⟨Int32.not_lt.mp h3, Int32.not_lt.mp h9⟩
      exact ⟨by rw [e]; rfl, rfl, rfl, rfl⟩
theorem lp_skip (γ : GE) {b c : Bool} {J : AJ} {T : Nat → Int32} {n : Nat} : ∀ (m p : Nat) (X : AI), p + m = n → Tap T n X → X 95 5 = nI p → Rj γ mX5_skipBlanks 0 0 0 (rV (SS b c) (upI X 95 5 (nI (rnE blB T m p))) J) (0, [some (.ref 95)], [], (SS b c), X, J, 0, 0) := by
  intro m
  induction m with
  | zero =>
    intro p X hp hX e5
    have e4 := hX.2.1
    have hn := hX.1.1
    have cp : (nI p).toNatClampNeg = p := nI_clamp (by omega)
    refine r_run okX5_skipBlanks 4 (cs := []) (σ' := (8, [some (.ref 95)], [.int (X 95 4), .int (X 95 5)], (SS b c), X, J, 0, 0)) rfl trivial ?_
    simp only [e5, e4]
    show Rj _ _ _ _ _ _ (8, [some (.ref 95)], [.int (nI n), .int (nI p)], (SS b c), X, J, 0, 0)
    refine r_icmp okX5_skipBlanks rfl (fun (h8 : (nI n) ≤ (nI p)) => ?_) (fun (h8 : ¬ (nI n) ≤ (nI p)) => ?_)
    · refine r_vret okX5_skipBlanks rfl rfl (Nat.le_refl _) (Nat.le_refl _) ?_
      exact ⟨rfl, rfl, upI_same e5, rfl⟩
    · exact absurd (nI_ge' (by omega) (by omega)) h8
  | succ m ih =>
    intro p X hp hX e5
    have e4 := hX.2.1
    have hn := hX.1.1
    have cp : (nI p).toNatClampNeg = p := nI_clamp (by omega)
    have e96 := hX.2.2 p (by omega)
    refine r_run okX5_skipBlanks 4 (cs := []) (σ' := (8, [some (.ref 95)], [.int (X 95 4), .int (X 95 5)], (SS b c), X, J, 0, 0)) rfl trivial ?_
    simp only [e5, e4]
    show Rj _ _ _ _ _ _ (8, [some (.ref 95)], [.int (nI n), .int (nI p)], (SS b c), X, J, 0, 0)
    refine r_icmp okX5_skipBlanks rfl (fun (h8 : (nI n) ≤ (nI p)) => ?_) (fun (h8 : ¬ (nI n) ≤ (nI p)) => ?_)
    · exact absurd h8 (nI_ge (by omega) (by omega))
    · refine r_run okX5_skipBlanks 6 (cs := [vp_in (X 95 5) 800]) (σ' := (22, [some (.ref 95)], [.int 32, .int (X 96 ((X 95 5).toNatClampNeg))], (SS b c), X, J, 0, 0)) rfl ⟨(by rw [e5]; exact vin (by omega) (by decide)), trivial⟩ ?_
      simp only [e5, cp, e96]
      show Rj _ _ _ _ _ _ (22, [some (.ref 95)], [.int 32, .int (T p)], (SS b c), X, J, 0, 0)
      refine r_icmp okX5_skipBlanks rfl (fun (h22 : (T p) = (32 : Int32)) => ?_) (fun (h22 : ¬ (T p) = (32 : Int32)) => ?_)
      · refine r_run okX5_skipBlanks 7 (cs := []) (σ' := (0, [some (.ref 95)], [], (SS b c), (upI X 95 5 ((X 95 5) + 1)), J, 0, 0)) rfl trivial ?_
        simp only [e5, ← nI_succ]
        show Rj _ _ _ _ _ _ (0, [some (.ref 95)], [], (SS b c), (upI X 95 5 (nI (p + 1))), J, 0, 0)
        have hb : blB (T p) = true := by unfold blB; rw [decide_eq_true h22]; rfl
        have z := ih (p + 1) (upI X 95 5 (nI (p + 1))) (by omega) (Tap_5 hX) upI_s
        rw [upI_2] at z
        rw [show rnE blB T (m + 1) p = rnE blB T m (p + 1) by rw [rnE, if_pos hb]]
        exact z
      · refine r_run okX5_skipBlanks 6 (cs := [vp_in (X 95 5) 800]) (σ' := (36, [some (.ref 95)], [.int 10, .int (X 96 ((X 95 5).toNatClampNeg))], (SS b c), X, J, 0, 0)) rfl ⟨(by rw [e5]; exact vin (by omega) (by decide)), trivial⟩ ?_
        simp only [e5, cp, e96]
        show Rj _ _ _ _ _ _ (36, [some (.ref 95)], [.int 10, .int (T p)], (SS b c), X, J, 0, 0)
        refine r_icmp okX5_skipBlanks rfl (fun (h36 : ¬ (T p) = (10 : Int32)) => ?_) (fun h360 => ?_)
        · refine r_vret okX5_skipBlanks rfl rfl (Nat.le_refl _) (Nat.le_refl _) ?_
          have hb : ¬ blB (T p) = true := by unfold blB; rw [decide_eq_false h22, decide_eq_false h36]; decide
          rw [show rnE blB T (m + 1) p = p by rw [rnE, if_neg hb]]
          exact ⟨rfl, rfl, upI_same e5, rfl⟩
        · have h36 : (T p) = (10 : Int32) := Classical.not_not.mp h360
          refine r_run okX5_skipBlanks 7 (cs := []) (σ' := (0, [some (.ref 95)], [], (SS b c), (upI X 95 5 ((X 95 5) + 1)), J, 0, 0)) rfl trivial ?_
          simp only [e5, ← nI_succ]
          show Rj _ _ _ _ _ _ (0, [some (.ref 95)], [], (SS b c), (upI X 95 5 (nI (p + 1))), J, 0, 0)
          have hb : blB (T p) = true := by unfold blB; rw [decide_eq_true h36, Bool.or_true]
          have z := ih (p + 1) (upI X 95 5 (nI (p + 1))) (by omega) (Tap_5 hX) upI_s
          rw [upI_2] at z
          rw [show rnE blB T (m + 1) p = rnE blB T m (p + 1) by rw [rnE, if_pos hb]]
          exact z
theorem t_skip (γ : GE) {b c : Bool} {J : AJ} {T : Nat → Int32} {n : Nat} {X : AI} {p : Nat} (hp : p ≤ n) (hX : Tap T n X) (e5 : X 95 5 = nI p) : Ct γ mX5_skipBlanks 0 0 0 [.ref 95] (SS b c) X J (rV (SS b c) (upI X 95 5 (nI (skE T n p))) J) := by
  refine ct_of okX5_skipBlanks (L := [some (.ref 95)]) (Nat.le_of_ble_eq_true rfl) rfl ?_
  exact lp_skip γ (n - p) p X (by omega) hX e5
theorem lp_kw (γ : GE) {b c : Bool} {J : AJ} {T : Nat → Int32} {n : Nat} {X : AI} {a z k : Nat} (hX : Tap T n X) (hz : z ≤ n) (hk : k + (z - a) ≤ 82) : ∀ (m q : Nat), q + m = z → a ≤ q → (∀ j, j < q - a → WD (k + 1 + j) = T (a + j)) → Rj γ mX5_isKeyword 4 0 0 (rI (bi (kwB T a z k)) (SS b c) X J) (3, [some (.ref 95), some (.int (nI k)), some (.int (nI a)), some (.int (nI z)), some (.int (nI q))], [], (SS b c), X, J, 0, 0) := by
  have hn := hX.1.1
  intro m
  induction m with
  | zero =>
    intro q hq ha hall
    refine r_run okX5_isKeyword 2 (cs := []) (σ' := (6, [some (.ref 95), some (.int (nI k)), some (.int (nI a)), some (.int (nI z)), some (.int (nI q))], [.int (nI z), .int (nI q)], (SS b c), X, J, 0, 0)) rfl trivial ?_
    refine r_icmp okX5_isKeyword rfl (fun (h6 : (nI z) ≤ (nI q)) => ?_) (fun (h6 : ¬ (nI z) ≤ (nI q)) => ?_)
    · refine r_run okX5_isKeyword 1 (cs := []) (σ' := (39, [some (.ref 95), some (.int (nI k)), some (.int (nI a)), some (.int (nI z)), some (.int (nI q))], [.int 1], (SS b c), X, J, 0, 0)) rfl trivial ?_
      refine r_iret okX5_isKeyword rfl rfl (by decide +kernel) (Nat.le_refl _) (Nat.le_refl _) ?_
      have e : kwB T a z k = true := kwB_t (fun j hj => hall j (by omega))
      exact ⟨by rw [e]; rfl, rfl, rfl, rfl⟩
    · exact absurd (nI_ge' (by omega) (by omega)) h6
  | succ m ih =>
    intro q hq ha hall
    have cq : (nI q).toNatClampNeg = q := nI_clamp (by omega)
    have e96 := hX.2.2 q (by omega)
    have ei : nI k + nI q - nI a = nI (k + q - a) := by rw [nI_ad, nI_sb (by omega)]
    refine r_run okX5_isKeyword 2 (cs := []) (σ' := (6, [some (.ref 95), some (.int (nI k)), some (.int (nI a)), some (.int (nI z)), some (.int (nI q))], [.int (nI z), .int (nI q)], (SS b c), X, J, 0, 0)) rfl trivial ?_
    refine r_icmp okX5_isKeyword rfl (fun (h6 : (nI z) ≤ (nI q)) => ?_) (fun (h6 : ¬ (nI z) ≤ (nI q)) => ?_)
    · exact absurd h6 (nI_ge (by omega) (by omega))
    · refine r_run okX5_isKeyword 10 (cs := [vp_in (nI q) 800]) (σ' := (24, [some (.ref 95), some (.int (nI k)), some (.int (nI a)), some (.int (nI z)), some (.int (nI q))], [.int (((nI k) + (nI q)) - (nI a)), .retAddr 1, .int (X 96 ((nI q).toNatClampNeg))], (SS b c), X, J, 0, 0)) rfl ⟨(vin (by omega) (by decide)), trivial⟩ ?_
      simp only [cq, e96, ei]
      show Rj _ _ _ _ _ _ (24, [some (.ref 95), some (.int (nI k)), some (.int (nI a)), some (.int (nI z)), some (.int (nI q))], [.int (nI (k + q - a)), .retAddr 1, .int (T q)], (SS b c), X, J, 0, 0)
      refine r_callX okX5_isKeyword okJ0_charAt_5068e [.int (nI (k + q - a))] [.int (T q)] (i := 0) (by decide) rfl rfl rfl kkJ0_charAt_5068e rfl rfl (by decide) rfl (by decide) ⟨Nat.le_refl _, Nat.le_refl _⟩ (Nat.le_of_ble_eq_true rfl) (t_charAt γ (k := k + q - a) (by omega)) (fun v1 S1 I1 J1 hp => ?_)
      obtain ⟨rfl, rfl, rfl, rfl⟩ := hp
      show Rj _ _ _ _ _ _ (27, [some (.ref 95), some (.int (nI k)), some (.int (nI a)), some (.int (nI z)), some (.int (nI q))], [.int (WD (k + q - a + 1)), .int (T q)], (SS b c), X, J, 0, 0)
      refine r_icmp okX5_isKeyword rfl (fun (h27 : (T q) = (WD (k + q - a + 1))) => ?_) (fun (h27 : ¬ (T q) = (WD (k + q - a + 1))) => ?_)
      · refine r_run okX5_isKeyword 2 (cs := []) (σ' := (3, [some (.ref 95), some (.int (nI k)), some (.int (nI a)), some (.int (nI z)), some (.int ((nI q) + 1))], [], (SS b c), X, J, 0, 0)) rfl trivial ?_
        rw [← nI_succ]
        refine ih (q + 1) (by omega) (by omega) (fun j hj => ?_)
        by_cases e : j < q - a
        · exact hall j e
        · rw [show k + 1 + j = k + q - a + 1 by omega, show a + j = q by omega]; exact h27.symm
      · refine r_run okX5_isKeyword 1 (cs := []) (σ' := (31, [some (.ref 95), some (.int (nI k)), some (.int (nI a)), some (.int (nI z)), some (.int (nI q))], [.int 0], (SS b c), X, J, 0, 0)) rfl trivial ?_
        refine r_iret okX5_isKeyword rfl rfl (by decide +kernel) (Nat.le_refl _) (Nat.le_refl _) ?_
        have e : kwB T a z k = false := kwB_f (j := q - a) (by omega) (by rw [show k + 1 + (q - a) = k + q - a + 1 by omega, show a + (q - a) = q by omega]; exact fun y => h27 y.symm)
        exact ⟨by rw [e]; rfl, rfl, rfl, rfl⟩
theorem t_kw (γ : GE) {b c : Bool} {J : AJ} {T : Nat → Int32} {n : Nat} {X : AI} {a z k : Nat} (hX : Tap T n X) (hz : z ≤ n) (haz : a ≤ z) (hk : k + (z - a) ≤ 82) : Ct γ mX5_isKeyword 4 0 0 [.ref 95, .int (nI k), .int (nI a), .int (nI z)] (SS b c) X J (rI (bi (kwB T a z k)) (SS b c) X J) := by
  refine ct_of okX5_isKeyword (L := [some (.ref 95), some (.int (nI k)), some (.int (nI a)), some (.int (nI z)), none]) (Nat.le_of_ble_eq_true rfl) rfl ?_
  refine r_run okX5_isKeyword 2 (cs := []) (σ' := (3, [some (.ref 95), some (.int (nI k)), some (.int (nI a)), some (.int (nI z)), some (.int (nI a))], [], (SS b c), X, J, 0, 0)) rfl trivial ?_
  exact lp_kw γ hX hz hk (z - a) a (by omega) (Nat.le_refl _) (fun j hj => by omega)
theorem lp_sw (γ : GE) {b c : Bool} {J : AJ} {T : Nat → Int32} {n : Nat} {X : AI} {a z : Nat} (hX : Tap T n X) (hz : z ≤ n) (haz : a ≤ z) (e5 : X 95 5 = nI z) (hle : ∀ q, a ≤ q → q < z → leB (T q) = true) : ∀ (m i w : Nat), i + m = 83 → ((w < 16 ∧ spA w ≤ i ∧ i < spA (w + 1)) ∨ (w = 16 ∧ i = 83)) → wdN T a z = wdF T a z (spL.drop w) w → Rj γ mX5_scanWord 5 0 0 (rI (kwV (wdN T a z)) (SS b c) X J) (51, [some (.ref 95), some (.int (nI a)), some (.int (nI w)), some (.int (nI (spA w))), some (.int (nI i))], [], (SS b c), X, J, 0, 0) := by
  have hn := hX.1.1
  intro m
  induction m with
  | zero =>
    intro i w hi hw hd
    have h16 : w = 16 := by
      rcases hw with h | h
      · have := (spA_nx w h.1).2.1; omega
      · exact h.1
    subst h16
    refine r_run okX5_scanWord 2 (cs := []) (σ' := (55, [some (.ref 95), some (.int (nI a)), some (.int (nI 16)), some (.int (nI (spA 16))), some (.int (nI i))], [.retAddr 1, .int (nI i)], (SS b c), X, J, 0, 0)) rfl trivial ?_
    refine r_callX okX5_scanWord okJ0_length_8abf5 [] [.int (nI i)] (i := 0) (by decide) rfl rfl rfl kkJ0_length_8abf5 rfl rfl (by decide) rfl (by decide) ⟨Nat.le_refl _, Nat.le_refl _⟩ (Nat.le_of_ble_eq_true rfl) (t_lenK γ) (fun v1 S1 I1 J1 hp => ?_)
    obtain ⟨rfl, rfl, rfl, rfl⟩ := hp
    show Rj _ _ _ _ _ _ (58, [some (.ref 95), some (.int (nI a)), some (.int (nI 16)), some (.int (nI (spA 16))), some (.int (nI i))], [.int 83, .int (nI i)], (SS b c), X, J, 0, 0)
    refine r_icmp okX5_scanWord rfl (fun (h58 : (83 : Int32) ≤ (nI i)) => ?_) (fun (h58 : ¬ (83 : Int32) ≤ (nI i)) => ?_)
    · refine r_run okX5_scanWord 1 (cs := []) (σ' := (117, [some (.ref 95), some (.int (nI a)), some (.int (nI 16)), some (.int (nI (spA 16))), some (.int (nI i))], [.int 18], (SS b c), X, J, 0, 0)) rfl trivial ?_
      refine r_iret okX5_scanWord rfl rfl rfl (Nat.le_refl _) (Nat.le_refl _) ?_
      have e : wdN T a z = -1 := hd
      exact ⟨by rw [e]; rfl, rfl, rfl, rfl⟩
    · exact absurd (nI_ge' (n := 83) (by omega) (by omega)) h58
  | succ m ih =>
    intro i w hi hw hd
    have hw : w < 16 ∧ spA w ≤ i ∧ i < spA (w + 1) := hw.resolve_right (fun h => by omega)
    obtain ⟨g1, g2, g3, g4⟩ := spA_nx w hw.1
    have hdr : wdN T a z = if wdB T a z (spA w) then nI w else wdF T a z (spL.drop (w + 1)) (w + 1) := by rw [hd, sp_drop w hw.1]; rfl
    by_cases hs : i + 1 = spA (w + 1)
    · have hns : WD (i + 1) = 32 := by rw [hs]; exact g3
      have ed : nI i - nI (spA w) = nI (i - spA w) := nI_sb (by omega)
      have ez : nI z - nI a = nI (z - a) := nI_sb haz
      refine r_run okX5_scanWord 2 (cs := []) (σ' := (55, [some (.ref 95), some (.int (nI a)), some (.int (nI w)), some (.int (nI (spA w))), some (.int (nI i))], [.retAddr 1, .int (nI i)], (SS b c), X, J, 0, 0)) rfl trivial ?_
      refine r_callX okX5_scanWord okJ0_length_8abf5 [] [.int (nI i)] (i := 0) (by decide) rfl rfl rfl kkJ0_length_8abf5 rfl rfl (by decide) rfl (by decide) ⟨Nat.le_refl _, Nat.le_refl _⟩ (Nat.le_of_ble_eq_true rfl) (t_lenK γ) (fun v1 S1 I1 J1 hp => ?_)
      obtain ⟨rfl, rfl, rfl, rfl⟩ := hp
      show Rj _ _ _ _ _ _ (58, [some (.ref 95), some (.int (nI a)), some (.int (nI w)), some (.int (nI (spA w))), some (.int (nI i))], [.int 83, .int (nI i)], (SS b c), X, J, 0, 0)
      refine r_icmp okX5_scanWord rfl (fun (h58 : (83 : Int32) ≤ (nI i)) => ?_) (fun (h58 : ¬ (83 : Int32) ≤ (nI i)) => ?_)
      · exact absurd h58 (nI_ge (b := 83) (by omega) (by decide))
      · refine r_run okX5_scanWord 2 (cs := []) (σ' := (65, [some (.ref 95), some (.int (nI a)), some (.int (nI w)), some (.int (nI (spA w))), some (.int (nI i))], [.int (nI i), .retAddr 1], (SS b c), X, J, 0, 0)) rfl trivial ?_
        refine r_callX okX5_scanWord okJ0_charAt_5068e [.int (nI i)] [] (i := 0) (by decide) rfl rfl rfl kkJ0_charAt_5068e rfl rfl (by decide) rfl (by decide) ⟨Nat.le_refl _, Nat.le_refl _⟩ (Nat.le_of_ble_eq_true rfl) (t_charAt γ (k := i) (by omega)) (fun v1 S1 I1 J1 hp => ?_)
        obtain ⟨rfl, rfl, rfl, rfl⟩ := hp
        show Rj _ _ _ _ _ _ (68, [some (.ref 95), some (.int (nI a)), some (.int (nI w)), some (.int (nI (spA w))), some (.int (nI i))], [.int (WD (i + 1))], (SS b c), X, J, 0, 0)
        refine r_run okX5_scanWord 1 (cs := []) (σ' := (70, [some (.ref 95), some (.int (nI a)), some (.int (nI w)), some (.int (nI (spA w))), some (.int (nI i))], [.int 32, .int (WD (i + 1))], (SS b c), X, J, 0, 0)) rfl trivial ?_
        refine r_icmp okX5_scanWord rfl (fun (h70 : ¬ (WD (i + 1)) = (32 : Int32)) => ?_) (fun h700 => ?_)
        · exact absurd hns h70
        · have h70 : (WD (i + 1)) = (32 : Int32) := Classical.not_not.mp h700
          refine r_run okX5_scanWord 7 (cs := []) (σ' := (83, [some (.ref 95), some (.int (nI a)), some (.int (nI w)), some (.int (nI (spA w))), some (.int (nI i))], [.int ((X 95 5) - (nI a)), .int ((nI i) - (nI (spA w)))], (SS b c), X, J, 0, 0)) rfl trivial ?_
          simp only [e5, ed, ez]
          show Rj _ _ _ _ _ _ (83, [some (.ref 95), some (.int (nI a)), some (.int (nI w)), some (.int (nI (spA w))), some (.int (nI i))], [.int (nI (z - a)), .int (nI (i - spA w))], (SS b c), X, J, 0, 0)
          refine r_icmp okX5_scanWord rfl (fun (h83 : ¬ (nI (i - spA w)) = (nI (z - a))) => ?_) (fun h830 => ?_)
          · refine r_run okX5_scanWord 7 (cs := []) (σ' := (51, [some (.ref 95), some (.int (nI a)), some (.int ((nI w) + 1)), some (.int ((nI i) + 1)), some (.int ((nI i) + 1))], [], (SS b c), X, J, 0, 0)) rfl trivial ?_
            have ew : wdB T a z (spA w) = false := by rw [wd_same hw.1 hle haz]; rw [decide_eq_false (fun y => h83 (by rw [show i - spA w = z - a by omega]))]; rfl
            rw [ew] at hdr
            rw [← nI_succ, ← nI_succ]
            show Rj _ _ _ _ _ _ (51, [some (.ref 95), some (.int (nI a)), some (.int (nI (w + 1))), some (.int (nI (i + 1))), some (.int (nI (i + 1)))], [], (SS b c), X, J, 0, 0)
            have e1 : i + 1 = spA (w + 1) := by omega
            rw [show nI (i + 1) = nI (spA (w + 1)) by rw [e1]]
            refine (show Rj γ mX5_scanWord 5 0 0 (rI (kwV (wdN T a z)) (SS b c) X J) (51, [some (.ref 95), some (.int (nI a)), some (.int (nI (w + 1))), some (.int (nI (spA (w + 1)))), some (.int (nI (spA (w + 1))))], [], (SS b c), X, J, 0, 0) from ?_)
            have z := ih (i + 1) (w + 1) (by omega) ?_ hdr
            · rw [e1] at z; exact z
            · by_cases h15 : w + 1 < 16
              · exact Or.inl ⟨h15, by omega, by have := (spA_nx (w + 1) h15).1; omega⟩
              · have : w = 15 := by omega
                subst this
                exact Or.inr ⟨rfl, by have : spA (15 + 1) = 83 := rfl; omega⟩
          · have h83 : (nI (i - spA w)) = (nI (z - a)) := Classical.not_not.mp h830
            refine r_run okX5_scanWord 5 (cs := []) (σ' := (93, [some (.ref 95), some (.int (nI a)), some (.int (nI w)), some (.int (nI (spA w))), some (.int (nI i))], [.int (X 95 5), .int (nI a), .int (nI (spA w)), .ref 95], (SS b c), X, J, 0, 0)) rfl trivial ?_
            simp only [e5]
            show Rj _ _ _ _ _ _ (93, [some (.ref 95), some (.int (nI a)), some (.int (nI w)), some (.int (nI (spA w))), some (.int (nI i))], [.int (nI z), .int (nI a), .int (nI (spA w)), .ref 95], (SS b c), X, J, 0, 0)
            refine r_callV okX5_scanWord okX5_isKeyword [.int (nI (spA w)), .int (nI a), .int (nI z)] [] 95 rfl rfl rfl kkX5_isKeyword rfl rfl (by decide) rfl rfl rfl (by decide) ⟨Nat.le_refl _, Nat.le_refl _⟩ (Nat.le_of_ble_eq_true rfl) (t_kw γ hX hz haz (k := spA w) (by have := nI_inj (by omega) (by omega) h83; omega)) (fun v1 S1 I1 J1 hp => ?_)
            obtain ⟨rfl, rfl, rfl, rfl⟩ := hp
            show Rj _ _ _ _ _ _ (96, [some (.ref 95), some (.int (nI a)), some (.int (nI w)), some (.int (nI (spA w))), some (.int (nI i))], [.int (bi (kwB T a z (spA w)))], (SS b c), X, J, 0, 0)
            refine r_ifc okX5_scanWord rfl (fun (h96 : (bi (kwB T a z (spA w))) = (0 : Int32)) => ?_) (fun (h96 : ¬ (bi (kwB T a z (spA w))) = (0 : Int32)) => ?_)
            · refine r_run okX5_scanWord 7 (cs := []) (σ' := (51, [some (.ref 95), some (.int (nI a)), some (.int ((nI w) + 1)), some (.int ((nI i) + 1)), some (.int ((nI i) + 1))], [], (SS b c), X, J, 0, 0)) rfl trivial ?_
              have ew : wdB T a z (spA w) = false := by rw [wd_same hw.1 hle haz]; rw [bi_0.mp h96, Bool.and_false]
              rw [ew] at hdr
              rw [← nI_succ, ← nI_succ]
              show Rj _ _ _ _ _ _ (51, [some (.ref 95), some (.int (nI a)), some (.int (nI (w + 1))), some (.int (nI (i + 1))), some (.int (nI (i + 1)))], [], (SS b c), X, J, 0, 0)
              have e1 : i + 1 = spA (w + 1) := by omega
              rw [show nI (i + 1) = nI (spA (w + 1)) by rw [e1]]
              refine (show Rj γ mX5_scanWord 5 0 0 (rI (kwV (wdN T a z)) (SS b c) X J) (51, [some (.ref 95), some (.int (nI a)), some (.int (nI (w + 1))), some (.int (nI (spA (w + 1)))), some (.int (nI (spA (w + 1))))], [], (SS b c), X, J, 0, 0) from ?_)
              have z := ih (i + 1) (w + 1) (by omega) ?_ hdr
              · rw [e1] at z; exact z
              · by_cases h15 : w + 1 < 16
                · exact Or.inl ⟨h15, by omega, by have := (spA_nx (w + 1) h15).1; omega⟩
                · have : w = 15 := by omega
                  subst this
                  exact Or.inr ⟨rfl, by have : spA (15 + 1) = 83 := rfl; omega⟩
            · refine r_run okX5_scanWord 1 (cs := []) (σ' := (100, [some (.ref 95), some (.int (nI a)), some (.int (nI w)), some (.int (nI (spA w))), some (.int (nI i))], [.int (nI w)], (SS b c), X, J, 0, 0)) rfl trivial ?_
              refine r_iret okX5_scanWord rfl rfl rfl (Nat.le_refl _) (Nat.le_refl _) ?_
              have ew : wdB T a z (spA w) = true := by rw [wd_same hw.1 hle haz, bi_n0.mp h96, decide_eq_true (by have := nI_inj (by omega) (by omega) h83; omega)]; rfl
              rw [ew, if_pos rfl] at hdr
              exact ⟨by rw [hdr, kwV_w hw.1], rfl, rfl, rfl⟩
    · have hns : ¬ WD (i + 1) = 32 := g4 _ (by omega) (by omega)
      refine r_run okX5_scanWord 2 (cs := []) (σ' := (55, [some (.ref 95), some (.int (nI a)), some (.int (nI w)), some (.int (nI (spA w))), some (.int (nI i))], [.retAddr 1, .int (nI i)], (SS b c), X, J, 0, 0)) rfl trivial ?_
      refine r_callX okX5_scanWord okJ0_length_8abf5 [] [.int (nI i)] (i := 0) (by decide) rfl rfl rfl kkJ0_length_8abf5 rfl rfl (by decide) rfl (by decide) ⟨Nat.le_refl _, Nat.le_refl _⟩ (Nat.le_of_ble_eq_true rfl) (t_lenK γ) (fun v1 S1 I1 J1 hp => ?_)
      obtain ⟨rfl, rfl, rfl, rfl⟩ := hp
      show Rj _ _ _ _ _ _ (58, [some (.ref 95), some (.int (nI a)), some (.int (nI w)), some (.int (nI (spA w))), some (.int (nI i))], [.int 83, .int (nI i)], (SS b c), X, J, 0, 0)
      refine r_icmp okX5_scanWord rfl (fun (h58 : (83 : Int32) ≤ (nI i)) => ?_) (fun (h58 : ¬ (83 : Int32) ≤ (nI i)) => ?_)
      · exact absurd h58 (nI_ge (b := 83) (by omega) (by decide))
      · refine r_run okX5_scanWord 2 (cs := []) (σ' := (65, [some (.ref 95), some (.int (nI a)), some (.int (nI w)), some (.int (nI (spA w))), some (.int (nI i))], [.int (nI i), .retAddr 1], (SS b c), X, J, 0, 0)) rfl trivial ?_
        refine r_callX okX5_scanWord okJ0_charAt_5068e [.int (nI i)] [] (i := 0) (by decide) rfl rfl rfl kkJ0_charAt_5068e rfl rfl (by decide) rfl (by decide) ⟨Nat.le_refl _, Nat.le_refl _⟩ (Nat.le_of_ble_eq_true rfl) (t_charAt γ (k := i) (by omega)) (fun v1 S1 I1 J1 hp => ?_)
        obtain ⟨rfl, rfl, rfl, rfl⟩ := hp
        show Rj _ _ _ _ _ _ (68, [some (.ref 95), some (.int (nI a)), some (.int (nI w)), some (.int (nI (spA w))), some (.int (nI i))], [.int (WD (i + 1))], (SS b c), X, J, 0, 0)
        refine r_run okX5_scanWord 1 (cs := []) (σ' := (70, [some (.ref 95), some (.int (nI a)), some (.int (nI w)), some (.int (nI (spA w))), some (.int (nI i))], [.int 32, .int (WD (i + 1))], (SS b c), X, J, 0, 0)) rfl trivial ?_
        refine r_icmp okX5_scanWord rfl (fun (h70 : ¬ (WD (i + 1)) = (32 : Int32)) => ?_) (fun h700 => ?_)
        · refine r_run okX5_scanWord 2 (cs := []) (σ' := (51, [some (.ref 95), some (.int (nI a)), some (.int (nI w)), some (.int (nI (spA w))), some (.int ((nI i) + 1))], [], (SS b c), X, J, 0, 0)) rfl trivial ?_
          rw [← nI_succ]
          exact ih (i + 1) w (by omega) (Or.inl ⟨hw.1, by omega, by omega⟩) hd
        · have h70 : (WD (i + 1)) = (32 : Int32) := Classical.not_not.mp h700
          exact absurd h70 hns
theorem lp_lt (γ : GE) {b c : Bool} {J : AJ} {T : Nat → Int32} {n : Nat} {Post : PT} {a : Nat} : ∀ (m p : Nat) (X : AI), p + m = n → Tap T n X → X 95 5 = nI p → Rj γ mX5_scanWord 5 0 0 Post (44, [some (.ref 95), some (.int (nI a)), none, none, none], [], (SS b c), (upI X 95 5 (nI (rnE leB T m p))), J, 0, 0) → Rj γ mX5_scanWord 5 0 0 Post (5, [some (.ref 95), some (.int (nI a)), none, none, none], [], (SS b c), X, J, 0, 0) := by
  intro m
  induction m with
  | zero =>
    intro p X hp hX e5 K
    have e4 := hX.2.1
    have hn := hX.1.1
    have cp : (nI p).toNatClampNeg = p := nI_clamp (by omega)
    refine r_run okX5_scanWord 4 (cs := []) (σ' := (13, [some (.ref 95), some (.int (nI a)), none, none, none], [.int (X 95 4), .int (X 95 5)], (SS b c), X, J, 0, 0)) rfl trivial ?_
    simp only [e5, e4]
    show Rj _ _ _ _ _ _ (13, [some (.ref 95), some (.int (nI a)), none, none, none], [.int (nI n), .int (nI p)], (SS b c), X, J, 0, 0)
    refine r_icmp okX5_scanWord rfl (fun (h13 : (nI n) ≤ (nI p)) => ?_) (fun (h13 : ¬ (nI n) ≤ (nI p)) => ?_)
    · rw [upI_same (show X 95 5 = nI (rnE leB T 0 p) from e5)] at K
      exact K
    · exact absurd (nI_ge' (by omega) (by omega)) h13
  | succ m ih =>
    intro p X hp hX e5 K
    have e4 := hX.2.1
    have hn := hX.1.1
    have cp : (nI p).toNatClampNeg = p := nI_clamp (by omega)
    have e96 := hX.2.2 p (by omega)
    refine r_run okX5_scanWord 4 (cs := []) (σ' := (13, [some (.ref 95), some (.int (nI a)), none, none, none], [.int (X 95 4), .int (X 95 5)], (SS b c), X, J, 0, 0)) rfl trivial ?_
    simp only [e5, e4]
    show Rj _ _ _ _ _ _ (13, [some (.ref 95), some (.int (nI a)), none, none, none], [.int (nI n), .int (nI p)], (SS b c), X, J, 0, 0)
    refine r_icmp okX5_scanWord rfl (fun (h13 : (nI n) ≤ (nI p)) => ?_) (fun (h13 : ¬ (nI n) ≤ (nI p)) => ?_)
    · exact absurd h13 (nI_ge (by omega) (by omega))
    · refine r_run okX5_scanWord 5 (cs := [vp_in (X 95 5) 800]) (σ' := (25, [some (.ref 95), some (.int (nI a)), none, none, none], [.int (X 96 ((X 95 5).toNatClampNeg))], (SS b c), X, J, 0, 0)) rfl ⟨(by rw [e5]; exact vin (by omega) (by decide)), trivial⟩ ?_
      simp only [e5, cp, e96]
      show Rj _ _ _ _ _ _ (25, [some (.ref 95), some (.int (nI a)), none, none, none], [.int (T p)], (SS b c), X, J, 0, 0)
      refine r_callS okX5_scanWord okX5_isLetter [.int (T p)] [] rfl rfl rfl kkX5_isLetter rfl rfl (by decide) (by decide) ⟨Nat.le_refl _, Nat.le_refl _⟩ (Nat.le_of_ble_eq_true rfl) (t_let γ (T p)) (fun v1 S1 I1 J1 hp => ?_)
      obtain ⟨rfl, rfl, rfl, rfl⟩ := hp
      show Rj _ _ _ _ _ _ (28, [some (.ref 95), some (.int (nI a)), none, none, none], [.int (bi (leB (T p)))], (SS b c), X, J, 0, 0)
      refine r_ifc okX5_scanWord rfl (fun (h28 : (bi (leB (T p))) = (0 : Int32)) => ?_) (fun (h28 : ¬ (bi (leB (T p))) = (0 : Int32)) => ?_)
      · rw [show rnE leB T (m + 1) p = p by rw [rnE, if_neg (by rw [bi_0.mp h28]; decide)], upI_same e5] at K
        exact K
      · refine r_run okX5_scanWord 7 (cs := []) (σ' := (5, [some (.ref 95), some (.int (nI a)), none, none, none], [], (SS b c), (upI X 95 5 ((X 95 5) + 1)), J, 0, 0)) rfl trivial ?_
        simp only [e5, ← nI_succ]
        show Rj _ _ _ _ _ _ (5, [some (.ref 95), some (.int (nI a)), none, none, none], [], (SS b c), (upI X 95 5 (nI (p + 1))), J, 0, 0)
        refine ih (p + 1) (upI X 95 5 (nI (p + 1))) (by omega) (Tap_5 hX) upI_s ?_
        rw [upI_2]
        rw [show rnE leB T (m + 1) p = rnE leB T m (p + 1) by rw [rnE, if_pos (bi_n0.mp h28)]] at K
        exact K
theorem t_word (γ : GE) {b c : Bool} {J : AJ} {T : Nat → Int32} {n : Nat} {X : AI} {p : Nat} (hp : p < n) (hX : Tap T n X) (e5 : X 95 5 = nI p) (hl : leB (T p) = true) : Ct γ mX5_scanWord 5 0 0 [.ref 95] (SS b c) X J (rI (toK T n p) (SS b c) (upI X 95 5 (nI (toE T n p))) J) := by
  have eE : toE T n p = rnE leB T (n - p) p := by unfold toE; rw [if_neg (by omega), if_pos hl]
  have hle := rnE_le (P := leB) (T := T) (n - p) p
  refine ct_of okX5_scanWord (L := [some (.ref 95), none, none, none, none]) (Nat.le_of_ble_eq_true rfl) rfl ?_
  refine r_run okX5_scanWord 3 (cs := []) (σ' := (5, [some (.ref 95), some (.int (X 95 5)), none, none, none], [], (SS b c), X, J, 0, 0)) rfl trivial ?_
  rw [e5]
  refine lp_lt γ (n - p) p X (by omega) hX e5 ?_
  rw [← eE]
  refine r_run okX5_scanWord 6 (cs := []) (σ' := (51, [some (.ref 95), some (.int (nI p)), some (.int 0), some (.int 0), some (.int 0)], [], (SS b c), (upI X 95 5 (nI (toE T n p))), J, 0, 0)) rfl trivial ?_
  have z := lp_sw γ (b := b) (c := c) (J := J) (a := p) (z := toE T n p) (Tap_5 (v := nI (toE T n p)) hX) (by omega) (by omega) upI_s (fun q h1 h2 => rnE_all _ _ q h1 (by rw [← eE]; exact h2)) 83 0 0 (by omega) (Or.inl ⟨by decide, by decide, by decide⟩) rfl
  rw [show toK T n p = kwV (wdN T p (toE T n p)) by unfold toK; rw [if_neg (by omega), if_pos hl]; rfl]
  exact z
theorem lp_nu (γ : GE) {b c : Bool} {J : AJ} {T : Nat → Int32} {n : Nat} {Post : PT} {k p : Nat} : ∀ (m j : Nat) (X : AI), p + j + m = n → Tap T n X → X 95 5 = nI (p + j) → Rj γ mX5_scanNumber 1 0 0 Post (64, [some (.ref 95), some (.int (nI k)), some (.int (nI p)), some (.int (dvN T p (rnE diB T m (p + j) - p)))], [], (SS b c), (upI X 95 5 (nI (rnE diB T m (p + j)))), J, 0, 0) → Rj γ mX5_scanNumber 1 0 0 Post (7, [some (.ref 95), some (.int (nI k)), some (.int (nI p)), some (.int (dvN T p j))], [], (SS b c), X, J, 0, 0) := by
  intro m
  induction m with
  | zero =>
    intro j X hp hX e5 K
    have e4 := hX.2.1
    have hn := hX.1.1
    have cp : (nI (p + j)).toNatClampNeg = (p + j) := nI_clamp (by omega)
    refine r_run okX5_scanNumber 4 (cs := []) (σ' := (15, [some (.ref 95), some (.int (nI k)), some (.int (nI p)), some (.int (dvN T p j))], [.int (X 95 4), .int (X 95 5)], (SS b c), X, J, 0, 0)) rfl trivial ?_
    simp only [e5, e4]
    show Rj _ _ _ _ _ _ (15, [some (.ref 95), some (.int (nI k)), some (.int (nI p)), some (.int (dvN T p j))], [.int (nI n), .int (nI (p + j))], (SS b c), X, J, 0, 0)
    refine r_icmp okX5_scanNumber rfl (fun (h15 : (nI n) ≤ (nI (p + j))) => ?_) (fun (h15 : ¬ (nI n) ≤ (nI (p + j))) => ?_)
    · rw [show rnE diB T 0 (p + j) = p + j from rfl, upI_same e5, show p + j - p = j by omega] at K
      exact K
    · exact absurd (nI_ge' (by omega) (by omega)) h15
  | succ m ih =>
    intro j X hp hX e5 K
    have e4 := hX.2.1
    have hn := hX.1.1
    have cp : (nI (p + j)).toNatClampNeg = (p + j) := nI_clamp (by omega)
    have e96 := hX.2.2 (p + j) (by omega)
    refine r_run okX5_scanNumber 4 (cs := []) (σ' := (15, [some (.ref 95), some (.int (nI k)), some (.int (nI p)), some (.int (dvN T p j))], [.int (X 95 4), .int (X 95 5)], (SS b c), X, J, 0, 0)) rfl trivial ?_
    simp only [e5, e4]
    show Rj _ _ _ _ _ _ (15, [some (.ref 95), some (.int (nI k)), some (.int (nI p)), some (.int (dvN T p j))], [.int (nI n), .int (nI (p + j))], (SS b c), X, J, 0, 0)
    refine r_icmp okX5_scanNumber rfl (fun (h15 : (nI n) ≤ (nI (p + j))) => ?_) (fun (h15 : ¬ (nI n) ≤ (nI (p + j))) => ?_)
    · exact absurd h15 (nI_ge (by omega) (by omega))
    · refine r_run okX5_scanNumber 5 (cs := [vp_in (X 95 5) 800]) (σ' := (27, [some (.ref 95), some (.int (nI k)), some (.int (nI p)), some (.int (dvN T p j))], [.int (X 96 ((X 95 5).toNatClampNeg))], (SS b c), X, J, 0, 0)) rfl ⟨(by rw [e5]; exact vin (by omega) (by decide)), trivial⟩ ?_
      simp only [e5, cp, e96]
      show Rj _ _ _ _ _ _ (27, [some (.ref 95), some (.int (nI k)), some (.int (nI p)), some (.int (dvN T p j))], [.int (T (p + j))], (SS b c), X, J, 0, 0)
      refine r_callS okX5_scanNumber okX5_isDigit [.int (T (p + j))] [] rfl rfl rfl kkX5_isDigit rfl rfl (by decide) (by decide) ⟨Nat.le_refl _, Nat.le_refl _⟩ (Nat.le_of_ble_eq_true rfl) (t_dig γ (T (p + j))) (fun v1 S1 I1 J1 hp => ?_)
      obtain ⟨rfl, rfl, rfl, rfl⟩ := hp
      show Rj _ _ _ _ _ _ (30, [some (.ref 95), some (.int (nI k)), some (.int (nI p)), some (.int (dvN T p j))], [.int (bi (diB (T (p + j))))], (SS b c), X, J, 0, 0)
      refine r_ifc okX5_scanNumber rfl (fun (h30 : (bi (diB (T (p + j)))) = (0 : Int32)) => ?_) (fun (h30 : ¬ (bi (diB (T (p + j)))) = (0 : Int32)) => ?_)
      · rw [show rnE diB T (m + 1) (p + j) = p + j by rw [rnE, if_neg (by rw [bi_0.mp h30]; decide)], upI_same e5, show p + j - p = j by omega] at K
        exact K
      · refine r_run okX5_scanNumber 19 (cs := [vp_in (X 95 5) 800]) (σ' := (7, [some (.ref 95), some (.int (nI k)), some (.int (nI p)), some (.int ((((dvN T p j) * 10) + (X 96 ((X 95 5).toNatClampNeg))) - 48))], [], (SS b c), (upI X 95 5 ((X 95 5) + 1)), J, 0, 0)) rfl ⟨(by rw [e5]; exact vin (by omega) (by decide)), trivial⟩ ?_
        simp only [e5, cp, e96, ← nI_succ]
        show Rj _ _ _ _ _ _ (7, [some (.ref 95), some (.int (nI k)), some (.int (nI p)), some (.int ((((dvN T p j) * 10) + (T (p + j))) - 48))], [], (SS b c), (upI X 95 5 (nI (p + j + 1))), J, 0, 0)
        refine ih (j + 1) (upI X 95 5 (nI (p + j + 1))) (by omega) (Tap_5 hX) upI_s ?_
        rw [upI_2]
        rw [show rnE diB T (m + 1) (p + j) = rnE diB T m (p + j + 1) by rw [rnE, if_pos (bi_n0.mp h30)]] at K
        exact K
theorem t_num (γ : GE) {b c : Bool} {J : AJ} {T : Nat → Int32} {n : Nat} {X : AI} {p k : Nat} (hk : k < 801) (hp : p < n) (hX : Tap T n X) (e5 : X 95 5 = nI p) (hl : leB (T p) = false) (hd : diB (T p) = true) : Ct γ mX5_scanNumber 1 0 0 [.ref 95, .int (nI k)] (SS b c) X J (rV (SS b c) (upI (upI (upI X 95 5 (nI (toE T n p))) 97 k (toK T n p)) 98 k (toV T n p)) J) := by
  have hn := hX.1.1
  have ck : (nI k).toNatClampNeg = k := nI_clamp (by omega)
  have eE : toE T n p = rnE diB T (n - p) p := by unfold toE; rw [if_neg (by omega), if_neg (by rw [hl]; decide), if_pos hd]
  have hle := rnE_le (P := diB) (T := T) (n - p) p
  have es : nI (toE T n p) - nI p = nI (toE T n p - p) := nI_sb (by omega)
  refine ct_of okX5_scanNumber (L := [some (.ref 95), some (.int (nI k)), none, none]) (Nat.le_of_ble_eq_true rfl) rfl ?_
  refine r_run okX5_scanNumber 5 (cs := []) (σ' := (7, [some (.ref 95), some (.int (nI k)), some (.int (X 95 5)), some (.int 0)], [], (SS b c), X, J, 0, 0)) rfl trivial ?_
  simp only [e5]
  show Rj _ _ _ _ _ _ (7, [some (.ref 95), some (.int (nI k)), some (.int (nI p)), some (.int 0)], [], (SS b c), X, J, 0, 0)
  have z := lp_nu γ (b := b) (c := c) (J := J) (T := T) (n := n) (Post := rV (SS b c) (upI (upI (upI X 95 5 (nI (toE T n p))) 97 k (toK T n p)) 98 k (toV T n p)) J) (k := k) (p := p) (n - p) 0 X (by omega) hX e5 ?_
  · exact z
  · rw [show p + 0 = p from rfl, ← eE]
    refine r_run okX5_scanNumber 8 (cs := []) (σ' := (76, [some (.ref 95), some (.int (nI k)), some (.int (nI p)), some (.int (dvN T p (toE T n p - p)))], [.int 4, .int ((nI (toE T n p)) - (nI p)), .int (nI k), .ref 97], (SS b c), (upI X 95 5 (nI (toE T n p))), J, 0, 0)) rfl trivial ?_
    simp only [es]
    show Rj _ _ _ _ _ _ (76, [some (.ref 95), some (.int (nI k)), some (.int (nI p)), some (.int (dvN T p (toE T n p - p)))], [.int 4, .int (nI (toE T n p - p)), .int (nI k), .ref 97], (SS b c), (upI X 95 5 (nI (toE T n p))), J, 0, 0)
    refine r_icmp okX5_scanNumber rfl (fun (h76 : (4 : Int32) < (nI (toE T n p - p))) => ?_) (fun (h76 : ¬ (4 : Int32) < (nI (toE T n p - p))) => ?_)
    · refine r_run okX5_scanNumber 7 (cs := [vp_in (nI k) 801, vp_in (nI k) 801]) (σ' := (94, [some (.ref 95), some (.int (nI k)), some (.int (nI p)), some (.int (dvN T p (toE T n p - p)))], [], (SS b c), (upI (upI (upI X 95 5 (nI (toE T n p))) 97 ((nI k).toNatClampNeg) 18) 98 ((nI k).toNatClampNeg) (dvN T p (toE T n p - p))), J, 0, 0)) rfl ⟨(vin (by omega) (by decide)), (vin (by omega) (by decide)), trivial⟩ ?_
      simp only [ck]
      show Rj _ _ _ _ _ _ (94, [some (.ref 95), some (.int (nI k)), some (.int (nI p)), some (.int (dvN T p (toE T n p - p)))], [], (SS b c), (upI (upI (upI X 95 5 (nI (toE T n p))) 97 k 18) 98 k (dvN T p (toE T n p - p))), J, 0, 0)
      refine r_vret okX5_scanNumber rfl rfl (Nat.le_refl _) (Nat.le_refl _) ?_
      have e4 : ¬ toE T n p - p ≤ 4 := fun y => absurd h76 (nI_nlt (a := 4) y (by omega))
      have eK : toK T n p = 18 := by unfold toK; rw [if_neg (by omega), if_neg (by rw [hl]; decide), if_pos hd, if_neg e4]
      exact ⟨rfl, rfl, by rw [eK]; rfl, rfl⟩
    · refine r_run okX5_scanNumber 8 (cs := [vp_in (nI k) 801, vp_in (nI k) 801]) (σ' := (94, [some (.ref 95), some (.int (nI k)), some (.int (nI p)), some (.int (dvN T p (toE T n p - p)))], [], (SS b c), (upI (upI (upI X 95 5 (nI (toE T n p))) 97 ((nI k).toNatClampNeg) 16) 98 ((nI k).toNatClampNeg) (dvN T p (toE T n p - p))), J, 0, 0)) rfl ⟨(vin (by omega) (by decide)), (vin (by omega) (by decide)), trivial⟩ ?_
      simp only [ck]
      show Rj _ _ _ _ _ _ (94, [some (.ref 95), some (.int (nI k)), some (.int (nI p)), some (.int (dvN T p (toE T n p - p)))], [], (SS b c), (upI (upI (upI X 95 5 (nI (toE T n p))) 97 k 16) 98 k (dvN T p (toE T n p - p))), J, 0, 0)
      refine r_vret okX5_scanNumber rfl rfl (Nat.le_refl _) (Nat.le_refl _) ?_
      have e4 : toE T n p - p ≤ 4 := Nat.le_of_not_lt fun y => h76 (nI_lt (a := 4) y (by omega))
      have eK : toK T n p = 16 := by unfold toK; rw [if_neg (by omega), if_neg (by rw [hl]; decide), if_pos hd, if_pos e4]
      exact ⟨rfl, rfl, by rw [eK]; rfl, rfl⟩
