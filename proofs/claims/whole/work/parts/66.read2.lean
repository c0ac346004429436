/-! ===== the reference reads: next ===== -/
/-- at, from, token, value set anew -/
def r4 (I : AI) (a f t v : Int32) : AI := fun x y => if x = 100 then (if y = 24 then a else if y = 25 then f else if y = 26 then t else if y = 27 then v else I x y) else I x y
theorem r4_24 {I : AI} {a f t v z : Int32} : upI (r4 I a f t v) 100 24 z = r4 I z f t v := by
  funext x y; simp only [upI, r4]; repeat' split
  all_goals first | rfl | omega
theorem r4_25 {I : AI} {a f t v z : Int32} : upI (r4 I a f t v) 100 25 z = r4 I a z t v := by
  funext x y; simp only [upI, r4]; repeat' split
  all_goals first | rfl | omega
theorem r4_26 {I : AI} {a f t v z : Int32} : upI (r4 I a f t v) 100 26 z = r4 I a f z v := by
  funext x y; simp only [upI, r4]; repeat' split
  all_goals first | rfl | omega
theorem r4_27 {I : AI} {a f t v z : Int32} : upI (r4 I a f t v) 100 27 z = r4 I a f t z := by
  funext x y; simp only [upI, r4]; repeat' split
  all_goals first | rfl | omega
theorem r4_self {I : AI} : r4 I (I 100 24) (I 100 25) (I 100 26) (I 100 27) = I := by
  funext x y; simp only [r4]; repeat' split
  all_goals first | rfl | (subst_vars; rfl)
def dvN (T : Nat → Int32) (p : Nat) : Nat → Int32
  | 0 => 0
  | k + 1 => dvN T p k * 10 + T (p + k) - 48
def dvR (T : Nat → Int32) (p : Nat) : Nat → Int32
  | 0 => T p - 48
  | k + 1 => if 10000 ≤ dvR T p k then dvR T p k else 10 * dvR T p k + T (p + (k + 1)) - 48
/-- where the token at p ends, which it is, its number -/
def toE (T : Nat → Int32) (n p : Nat) : Nat := if n ≤ p then p else if leB (T p) then rnE leB T (n - p) p else if diB (T p) then rnE diB T (n - p) p else p + 1
def toK (T : Nat → Int32) (n p : Nat) : Int32 := if n ≤ p then 17 else if leB (T p) then (if wdN T p (toE T n p) = -1 then 18 else wdN T p (toE T n p)) else if diB (T p) then (if toE T n p - p ≤ 4 then 16 else 18) else if siB (T p) then T p else 18
def toV (T : Nat → Int32) (n p : Nat) : Int32 := dvN T p (toE T n p - p)
def toR (K V tok val : Int32) : Prop := (K = 17 ∧ tok = 0) ∨ (K = 18 ∧ tok = 1) ∨ (rg 16 K ∧ tok = 2 ∧ val = K) ∨ (K = 16 ∧ tok = 3 ∧ val = V) ∨ (siB K = true ∧ tok = 4 ∧ val = K)
def skE (T : Nat → Int32) (n p : Nat) : Nat := rnE blB T (n - p) p
theorem wdF_rg {T : Nat → Int32} {a z : Nat} : ∀ {l : List Nat} {w : Nat}, wdF T a z l w = -1 ∨ ∃ k, w ≤ k ∧ k < w + l.length ∧ wdF T a z l w = nI k
  | [], w => Or.inl rfl
  | k :: l, w => by
    unfold wdF
    split
    · exact Or.inr ⟨w, Nat.le_refl _, by simp, rfl⟩
    · rcases wdF_rg (T := T) (a := a) (z := z) (l := l) (w := w + 1) with h | ⟨k, h1, h2, h3⟩
      · exact Or.inl h
      · exact Or.inr ⟨k, by omega, by simp; omega, h3⟩
theorem wdN_rg {T : Nat → Int32} {a z : Nat} : wdN T a z = -1 ∨ rg 16 (wdN T a z) := by
  rcases wdF_rg (T := T) (a := a) (z := z) (l := spL) (w := 0) with h | ⟨k, h1, h2, h3⟩
  · exact Or.inl h
  · exact Or.inr ⟨k, by simpa [spL] using h2, h3⟩
theorem di_rg {c : Int32} (h : diB c = true) : ∃ d, d < 10 ∧ c = nI (48 + d) := by
  obtain ⟨h1, h2⟩ := inB_t.mp h
  obtain ⟨k, rfl, hk⟩ := nI_ofx (Int32.le_trans (by decide) h1)
  have q1 : 48 ≤ k := Nat.le_of_not_lt fun z => absurd h1 (nI_ge (b := 48) z (by decide))
  have q2 : k ≤ 57 := Nat.le_of_not_lt fun z => absurd h2 (nI_ge (a := 57) z hk)
  exact ⟨k - 48, by omega, by rw [show 48 + (k - 48) = k by omega]⟩
/-- a row of at most four digits, as both read it -/
theorem dv_eq {T : Nat → Int32} {p : Nat} : ∀ (k : Nat), k < 4 → (∀ q, q ≤ k → diB (T (p + q)) = true) → dvR T p k = dvN T p (k + 1) ∧ ∃ m, m < 10 ^ (k + 1) ∧ dvN T p (k + 1) = nI m
  | 0, _, h => by
    obtain ⟨d, hd, e⟩ := di_rg (h 0 (Nat.le_refl _))
    have e0 : dvN T p (0 + 1) = T p - 48 := by unfold dvN dvN; simp
    refine ⟨e0.symm, d, by omega, ?_⟩
    rw [e0, show T p = T (p + 0) from rfl, e, ← nI_ad, Int32.add_comm]
    exact Int32.add_sub_cancel _ _
  | k + 1, hk, h => by
    obtain ⟨h1, m, hm, em⟩ := dv_eq k (by omega) (fun q hq => h q (by omega))
    obtain ⟨d, hd, e⟩ := di_rg (h (k + 1) (Nat.le_refl _))
    have hm4 : m < 1000 := Nat.lt_of_lt_of_le hm (show 10 ^ (k + 1) ≤ 10 ^ 3 from Nat.pow_le_pow_right (by decide) (by omega))
    have e2 : dvN T p (k + 1 + 1) = nI (m * 10 + d) := by
      show dvN T p (k + 1) * 10 + T (p + (k + 1)) - 48 = _
      rw [em, e, show (10 : Int32) = nI 10 from rfl, nI_mu, nI_ad, show m * 10 + (48 + d) = (m * 10 + d) + 48 by omega, ← nI_ad]
      exact Int32.add_sub_cancel _ _
    refine ⟨?_, m * 10 + d, ?_, e2⟩
    · unfold dvR
      rw [h1, em, if_neg (show ¬ (10000 : Int32) ≤ nI m from nI_ge (b := 10000) (by omega) (by decide)), ← em]
      show 10 * dvN T p (k + 1) + T (p + (k + 1)) - 48 = dvN T p (k + 1) * 10 + T (p + (k + 1)) - 48
      rw [Int32.mul_comm]
    · rw [Nat.pow_succ]; omega
theorem dvN_0 {T : Nat → Int32} {p : Nat} : dvN T p 1 = T p - 48 := by unfold dvN dvN; simp
theorem rnE_s {P : Int32 → Bool} {T : Nat → Int32} {n p : Nat} (hp : p < n) (h : P (T p) = true) : rnE P T (n - p) p = rnE P T (n - (p + 1)) (p + 1) := by
  rw [show n - p = (n - (p + 1)) + 1 by omega, rnE, if_pos h]
theorem rwV_lt {T : Nat → Int32} {n k : Nat} (h : k < n) : rwV T n k = T k := by unfold rwV; rw [if_pos h]
theorem rwV_ge {T : Nat → Int32} {n k : Nat} (h : n ≤ k) : rwV T n k = -1 := by unfold rwV; rw [if_neg (by omega)]
theorem nI_eq1 {p : Nat} : nI p + 1 = nI (p + 1) := (nI_succ p).symm
theorem c_wordAt1 (γ : GE) {b c : Bool} {I : AI} {J : AJ} {T : Nat → Int32} (hT : I 118 = T) (a z : Nat) (hW : MWds I) (hz : z ≤ 800) (haz : a ≤ z) (hle : ∀ q, a ≤ q → q < z → leB (T q) = true) : Ct γ mX12_wordAt 0 0 0 [.ref 100, .int (nI a), .int (nI z)] (SS b c) I J (rI (wdN T a z) (SS b c) I J) := by
  subst hT; exact c_wordAt0 γ a z hW hz haz hle
theorem lp_nxA (γ : GE) {b c : Bool} {I : AI} {J : AJ} {Post : PT} (f t v : Int32) (n : Nat) (hn : I 100 23 = nI n) (h8 : n ≤ 800) (hT : ∀ q, q < n → rg 256 (I 118 q)) (hW : MWds I) : ∀ (m p : Nat), p + m = n → (Rj γ mX12_next 2 0 0 Post (39, [some (.ref 100), none], [], (SS b c), (r4 I (nI (rnE blB (I 118) m p)) f t v), J, 0, 0)) → Rj γ mX12_next 2 0 0 Post (0, [some (.ref 100), none], [], (SS b c), (r4 I (nI p) f t v), J, 0, 0) := by
  intro m
  induction m with
  | zero =>
    intro p hp K
    refine r_run okX12_next 3 (cs := []) (σ' := (5, [some (.ref 100), none], [.int (nI p), .ref 100], (SS b c), (r4 I (nI p) f t v), J, 0, 0)) rfl trivial ?_
    refine r_callV okX12_next okX12_raw [.int (nI p)] [] 100 rfl rfl rfl kkX12_raw rfl rfl (by decide) rfl rfl rfl (by decide) ⟨Nat.le_refl _, Nat.le_refl _⟩ (Nat.le_of_ble_eq_true rfl) (c_raw γ (I := (r4 I (nI p) f t v)) (I 118) n p rfl hn h8 (by omega) (by first | rfl | exact nI_eq1) (rwV_ge (by omega))) (fun v1 S1 I1 J1 hp => ?_)
    obtain ⟨rfl, rfl, rfl, rfl⟩ := hp
    show Rj _ _ _ _ _ _ (8, [some (.ref 100), none], [.int (-1)], (SS b c), (r4 I (nI p) f t v), J, 0, 0)
    refine r_run okX12_next 1 (cs := []) (σ' := (10, [some (.ref 100), none], [.int 32, .int (-1)], (SS b c), (r4 I (nI p) f t v), J, 0, 0)) rfl trivial ?_
    refine r_icmp okX12_next rfl (fun (h10 : ((-1) : Int32) = (32 : Int32)) => ?_) (fun (h10 : ¬ ((-1) : Int32) = (32 : Int32)) => ?_)
    · exact absurd h10 (by decide)
    · refine r_run okX12_next 3 (cs := []) (σ' := (18, [some (.ref 100), none], [.int (nI p), .ref 100], (SS b c), (r4 I (nI p) f t v), J, 0, 0)) rfl trivial ?_
      refine r_callV okX12_next okX12_raw [.int (nI p)] [] 100 rfl rfl rfl kkX12_raw rfl rfl (by decide) rfl rfl rfl (by decide) ⟨Nat.le_refl _, Nat.le_refl _⟩ (Nat.le_of_ble_eq_true rfl) (c_raw γ (I := (r4 I (nI p) f t v)) (I 118) n p rfl hn h8 (by omega) (by first | rfl | exact nI_eq1) (rwV_ge (by omega))) (fun v1 S1 I1 J1 hp => ?_)
      obtain ⟨rfl, rfl, rfl, rfl⟩ := hp
      show Rj _ _ _ _ _ _ (21, [some (.ref 100), none], [.int (-1)], (SS b c), (r4 I (nI p) f t v), J, 0, 0)
      refine r_run okX12_next 1 (cs := []) (σ' := (23, [some (.ref 100), none], [.int 10, .int (-1)], (SS b c), (r4 I (nI p) f t v), J, 0, 0)) rfl trivial ?_
      refine r_icmp okX12_next rfl (fun (h23 : ¬ ((-1) : Int32) = (10 : Int32)) => ?_) (fun h230 => ?_)
      · exact K
      · have h23 : ((-1) : Int32) = (10 : Int32) := Classical.not_not.mp h230
        exact absurd h23 (by decide)
  | succ m ih =>
    intro p hp K
    refine r_run okX12_next 3 (cs := []) (σ' := (5, [some (.ref 100), none], [.int (nI p), .ref 100], (SS b c), (r4 I (nI p) f t v), J, 0, 0)) rfl trivial ?_
    refine r_callV okX12_next okX12_raw [.int (nI p)] [] 100 rfl rfl rfl kkX12_raw rfl rfl (by decide) rfl rfl rfl (by decide) ⟨Nat.le_refl _, Nat.le_refl _⟩ (Nat.le_of_ble_eq_true rfl) (c_raw γ (I := (r4 I (nI p) f t v)) (I 118) n p rfl hn h8 (by omega) (by first | rfl | exact nI_eq1) (rwV_lt (by omega))) (fun v1 S1 I1 J1 hp => ?_)
    obtain ⟨rfl, rfl, rfl, rfl⟩ := hp
    show Rj _ _ _ _ _ _ (8, [some (.ref 100), none], [.int (I 118 p)], (SS b c), (r4 I (nI p) f t v), J, 0, 0)
    refine r_run okX12_next 1 (cs := []) (σ' := (10, [some (.ref 100), none], [.int 32, .int (I 118 p)], (SS b c), (r4 I (nI p) f t v), J, 0, 0)) rfl trivial ?_
    refine r_icmp okX12_next rfl (fun (h10 : (I 118 p) = (32 : Int32)) => ?_) (fun (h10 : ¬ (I 118 p) = (32 : Int32)) => ?_)
    · refine r_run okX12_next 7 (cs := []) (σ' := (0, [some (.ref 100), none], [], (SS b c), (upI (r4 I (nI p) f t v) 100 24 ((nI p) + 1)), J, 0, 0)) rfl trivial ?_
      simp only [r4_24, r4_25, r4_26, r4_27]
      show Rj _ _ _ _ _ _ (0, [some (.ref 100), none], [], (SS b c), (r4 I ((nI p) + 1) f t v), J, 0, 0)
      rw [nI_eq1]
      rw [rnE, if_pos (by unfold blB; rw [show decide (I 118 p = 32) = true from decide_eq_true h10, Bool.true_or])] at K
      exact ih (p + 1) (by omega) K
    · refine r_run okX12_next 3 (cs := []) (σ' := (18, [some (.ref 100), none], [.int (nI p), .ref 100], (SS b c), (r4 I (nI p) f t v), J, 0, 0)) rfl trivial ?_
      refine r_callV okX12_next okX12_raw [.int (nI p)] [] 100 rfl rfl rfl kkX12_raw rfl rfl (by decide) rfl rfl rfl (by decide) ⟨Nat.le_refl _, Nat.le_refl _⟩ (Nat.le_of_ble_eq_true rfl) (c_raw γ (I := (r4 I (nI p) f t v)) (I 118) n p rfl hn h8 (by omega) (by first | rfl | exact nI_eq1) (rwV_lt (by omega))) (fun v1 S1 I1 J1 hp => ?_)
      obtain ⟨rfl, rfl, rfl, rfl⟩ := hp
      show Rj _ _ _ _ _ _ (21, [some (.ref 100), none], [.int (I 118 p)], (SS b c), (r4 I (nI p) f t v), J, 0, 0)
      refine r_run okX12_next 1 (cs := []) (σ' := (23, [some (.ref 100), none], [.int 10, .int (I 118 p)], (SS b c), (r4 I (nI p) f t v), J, 0, 0)) rfl trivial ?_
      refine r_icmp okX12_next rfl (fun (h23 : ¬ (I 118 p) = (10 : Int32)) => ?_) (fun h230 => ?_)
      · rw [rnE, if_neg (by unfold blB; rw [decide_eq_false h10, decide_eq_false h23]; decide)] at K
        exact K
      · have h23 : (I 118 p) = (10 : Int32) := Classical.not_not.mp h230
        refine r_run okX12_next 7 (cs := []) (σ' := (0, [some (.ref 100), none], [], (SS b c), (upI (r4 I (nI p) f t v) 100 24 ((nI p) + 1)), J, 0, 0)) rfl trivial ?_
        simp only [r4_24, r4_25, r4_26, r4_27]
        show Rj _ _ _ _ _ _ (0, [some (.ref 100), none], [], (SS b c), (r4 I ((nI p) + 1) f t v), J, 0, 0)
        rw [nI_eq1]
        rw [rnE, if_pos (by unfold blB; rw [show decide (I 118 p = 10) = true from decide_eq_true h23, Bool.or_true])] at K
        exact ih (p + 1) (by omega) K
theorem lp_nxB (γ : GE) {b c : Bool} {I : AI} {J : AJ} {Post : PT} (c0 f t v : Int32) (n : Nat) (hn : I 100 23 = nI n) (h8 : n ≤ 800) (hT : ∀ q, q < n → rg 256 (I 118 q)) (hW : MWds I) : ∀ (m p : Nat), p + m = n → (Rj γ mX12_next 2 0 0 Post (123, [some (.ref 100), some (.int c0)], [], (SS b c), (r4 I (nI (rnE leB (I 118) m p)) f t v), J, 0, 0)) → Rj γ mX12_next 2 0 0 Post (95, [some (.ref 100), some (.int c0)], [], (SS b c), (r4 I (nI p) f t v), J, 0, 0) := by
  intro m
  induction m with
  | zero =>
    intro p hp K
    refine r_run okX12_next 4 (cs := []) (σ' := (101, [some (.ref 100), some (.int c0)], [.int (nI p), .ref 100, .ref 100], (SS b c), (r4 I (nI p) f t v), J, 0, 0)) rfl trivial ?_
    refine r_callV okX12_next okX12_raw [.int (nI p)] [.ref 100] 100 rfl rfl rfl kkX12_raw rfl rfl (by decide) rfl rfl rfl (by decide) ⟨Nat.le_refl _, Nat.le_refl _⟩ (Nat.le_of_ble_eq_true rfl) (c_raw γ (I := (r4 I (nI p) f t v)) (I 118) n p rfl hn h8 (by omega) (by first | rfl | exact nI_eq1) (rwV_ge (by omega))) (fun v1 S1 I1 J1 hp => ?_)
    obtain ⟨rfl, rfl, rfl, rfl⟩ := hp
    show Rj _ _ _ _ _ _ (104, [some (.ref 100), some (.int c0)], [.int (-1), .ref 100], (SS b c), (r4 I (nI p) f t v), J, 0, 0)
    refine r_callV okX12_next okX12_isLetter [.int (-1)] [] 100 rfl rfl rfl kkX12_isLetter rfl rfl (by decide) rfl rfl rfl (by decide) ⟨Nat.le_refl _, Nat.le_refl _⟩ (Nat.le_of_ble_eq_true rfl) (c_isLetter γ (-1)) (fun v1 S1 I1 J1 hp => ?_)
    obtain ⟨rfl, rfl, rfl, rfl⟩ := hp
    show Rj _ _ _ _ _ _ (107, [some (.ref 100), some (.int c0)], [.int (bi (leB (-1)))], (SS b c), (r4 I (nI p) f t v), J, 0, 0)
    refine r_ifc okX12_next rfl (fun (h107 : (bi (leB (-1))) = (0 : Int32)) => ?_) (fun (h107 : ¬ (bi (leB (-1))) = (0 : Int32)) => ?_)
    · have h107s := bi_0.mp h107
      exact K
    · have h107s := bi_n0.mp h107
      exact absurd h107s (by decide)
  | succ m ih =>
    intro p hp K
    refine r_run okX12_next 4 (cs := []) (σ' := (101, [some (.ref 100), some (.int c0)], [.int (nI p), .ref 100, .ref 100], (SS b c), (r4 I (nI p) f t v), J, 0, 0)) rfl trivial ?_
    refine r_callV okX12_next okX12_raw [.int (nI p)] [.ref 100] 100 rfl rfl rfl kkX12_raw rfl rfl (by decide) rfl rfl rfl (by decide) ⟨Nat.le_refl _, Nat.le_refl _⟩ (Nat.le_of_ble_eq_true rfl) (c_raw γ (I := (r4 I (nI p) f t v)) (I 118) n p rfl hn h8 (by omega) (by first | rfl | exact nI_eq1) (rwV_lt (by omega))) (fun v1 S1 I1 J1 hp => ?_)
    obtain ⟨rfl, rfl, rfl, rfl⟩ := hp
    show Rj _ _ _ _ _ _ (104, [some (.ref 100), some (.int c0)], [.int (I 118 p), .ref 100], (SS b c), (r4 I (nI p) f t v), J, 0, 0)
    refine r_callV okX12_next okX12_isLetter [.int (I 118 p)] [] 100 rfl rfl rfl kkX12_isLetter rfl rfl (by decide) rfl rfl rfl (by decide) ⟨Nat.le_refl _, Nat.le_refl _⟩ (Nat.le_of_ble_eq_true rfl) (c_isLetter γ (I 118 p)) (fun v1 S1 I1 J1 hp => ?_)
    obtain ⟨rfl, rfl, rfl, rfl⟩ := hp
    show Rj _ _ _ _ _ _ (107, [some (.ref 100), some (.int c0)], [.int (bi (leB (I 118 p)))], (SS b c), (r4 I (nI p) f t v), J, 0, 0)
    refine r_ifc okX12_next rfl (fun (h107 : (bi (leB (I 118 p))) = (0 : Int32)) => ?_) (fun (h107 : ¬ (bi (leB (I 118 p))) = (0 : Int32)) => ?_)
    · have h107s := bi_0.mp h107
      rw [rnE, if_neg (by rw [h107s]; decide)] at K
      exact K
    · have h107s := bi_n0.mp h107
      refine r_run okX12_next 7 (cs := []) (σ' := (95, [some (.ref 100), some (.int c0)], [], (SS b c), (upI (r4 I (nI p) f t v) 100 24 ((nI p) + 1)), J, 0, 0)) rfl trivial ?_
      simp only [r4_24, r4_25, r4_26, r4_27]
      show Rj _ _ _ _ _ _ (95, [some (.ref 100), some (.int c0)], [], (SS b c), (r4 I ((nI p) + 1) f t v), J, 0, 0)
      rw [nI_eq1]
      rw [rnE, if_pos h107s] at K
      exact ih (p + 1) (by omega) K
theorem lp_nxC (γ : GE) {b c : Bool} {I : AI} {J : AJ} {Post : PT} (c0 f t : Int32) (p : Nat) (n : Nat) (hn : I 100 23 = nI n) (h8 : n ≤ 800) (hT : ∀ q, q < n → rg 256 (I 118 q)) (hW : MWds I) : ∀ (m k : Nat), p + k + 1 + m = n → (Rj γ mX12_next 2 0 0 Post (239, [some (.ref 100), some (.int c0)], [], (SS b c), (r4 I (nI (rnE diB (I 118) m (p + k + 1))) f t (dvR (I 118) p (rnE diB (I 118) m (p + k + 1) - p - 1))), J, 0, 0)) → Rj γ mX12_next 2 0 0 Post (171, [some (.ref 100), some (.int c0)], [], (SS b c), (r4 I (nI (p + k + 1)) f t (dvR (I 118) p k)), J, 0, 0) := by
  intro m
  induction m with
  | zero =>
    intro k hp K
    refine r_run okX12_next 4 (cs := []) (σ' := (177, [some (.ref 100), some (.int c0)], [.int (nI (p + k + 1)), .ref 100, .ref 100], (SS b c), (r4 I (nI (p + k + 1)) f t (dvR (I 118) p k)), J, 0, 0)) rfl trivial ?_
    refine r_callV okX12_next okX12_raw [.int (nI (p + k + 1))] [.ref 100] 100 rfl rfl rfl kkX12_raw rfl rfl (by decide) rfl rfl rfl (by decide) ⟨Nat.le_refl _, Nat.le_refl _⟩ (Nat.le_of_ble_eq_true rfl) (c_raw γ (I := (r4 I (nI (p + k + 1)) f t (dvR (I 118) p k))) (I 118) n (p + k + 1) rfl hn h8 (by omega) (by first | rfl | exact nI_eq1) (rwV_ge (by omega))) (fun v1 S1 I1 J1 hp => ?_)
    obtain ⟨rfl, rfl, rfl, rfl⟩ := hp
    show Rj _ _ _ _ _ _ (180, [some (.ref 100), some (.int c0)], [.int (-1), .ref 100], (SS b c), (r4 I (nI (p + k + 1)) f t (dvR (I 118) p k)), J, 0, 0)
    refine r_callV okX12_next okX12_isDigit [.int (-1)] [] 100 rfl rfl rfl kkX12_isDigit rfl rfl (by decide) rfl rfl rfl (by decide) ⟨Nat.le_refl _, Nat.le_refl _⟩ (Nat.le_of_ble_eq_true rfl) (c_isDigit γ (-1)) (fun v1 S1 I1 J1 hp => ?_)
    obtain ⟨rfl, rfl, rfl, rfl⟩ := hp
    show Rj _ _ _ _ _ _ (183, [some (.ref 100), some (.int c0)], [.int (bi (diB (-1)))], (SS b c), (r4 I (nI (p + k + 1)) f t (dvR (I 118) p k)), J, 0, 0)
    refine r_ifc okX12_next rfl (fun (h183 : (bi (diB (-1))) = (0 : Int32)) => ?_) (fun (h183 : ¬ (bi (diB (-1))) = (0 : Int32)) => ?_)
    · have h183s := bi_0.mp h183
      rw [rnE, show p + k + 1 - p - 1 = k by omega] at K
      exact K
    · have h183s := bi_n0.mp h183
      exact absurd h183s (by decide)
  | succ m ih =>
    intro k hp K
    refine r_run okX12_next 4 (cs := []) (σ' := (177, [some (.ref 100), some (.int c0)], [.int (nI (p + k + 1)), .ref 100, .ref 100], (SS b c), (r4 I (nI (p + k + 1)) f t (dvR (I 118) p k)), J, 0, 0)) rfl trivial ?_
    refine r_callV okX12_next okX12_raw [.int (nI (p + k + 1))] [.ref 100] 100 rfl rfl rfl kkX12_raw rfl rfl (by decide) rfl rfl rfl (by decide) ⟨Nat.le_refl _, Nat.le_refl _⟩ (Nat.le_of_ble_eq_true rfl) (c_raw γ (I := (r4 I (nI (p + k + 1)) f t (dvR (I 118) p k))) (I 118) n (p + k + 1) rfl hn h8 (by omega) (by first | rfl | exact nI_eq1) (rwV_lt (by omega))) (fun v1 S1 I1 J1 hp => ?_)
    obtain ⟨rfl, rfl, rfl, rfl⟩ := hp
    show Rj _ _ _ _ _ _ (180, [some (.ref 100), some (.int c0)], [.int (I 118 (p + k + 1)), .ref 100], (SS b c), (r4 I (nI (p + k + 1)) f t (dvR (I 118) p k)), J, 0, 0)
    refine r_callV okX12_next okX12_isDigit [.int (I 118 (p + k + 1))] [] 100 rfl rfl rfl kkX12_isDigit rfl rfl (by decide) rfl rfl rfl (by decide) ⟨Nat.le_refl _, Nat.le_refl _⟩ (Nat.le_of_ble_eq_true rfl) (c_isDigit γ (I 118 (p + k + 1))) (fun v1 S1 I1 J1 hp => ?_)
    obtain ⟨rfl, rfl, rfl, rfl⟩ := hp
    show Rj _ _ _ _ _ _ (183, [some (.ref 100), some (.int c0)], [.int (bi (diB (I 118 (p + k + 1))))], (SS b c), (r4 I (nI (p + k + 1)) f t (dvR (I 118) p k)), J, 0, 0)
    refine r_ifc okX12_next rfl (fun (h183 : (bi (diB (I 118 (p + k + 1)))) = (0 : Int32)) => ?_) (fun (h183 : ¬ (bi (diB (I 118 (p + k + 1)))) = (0 : Int32)) => ?_)
    · have h183s := bi_0.mp h183
      rw [rnE, if_neg (by rw [h183s]; decide), show p + k + 1 - p - 1 = k by omega] at K
      exact K
    · have h183s := bi_n0.mp h183
      refine r_run okX12_next 4 (cs := []) (σ' := (194, [some (.ref 100), some (.int c0)], [.int 10000, .int (dvR (I 118) p k), .ref 100], (SS b c), (r4 I (nI (p + k + 1)) f t (dvR (I 118) p k)), J, 0, 0)) rfl trivial ?_
      refine r_icmp okX12_next rfl (fun (h194 : (10000 : Int32) ≤ (dvR (I 118) p k)) => ?_) (fun (h194 : ¬ (10000 : Int32) ≤ (dvR (I 118) p k)) => ?_)
      · refine r_run okX12_next 10 (cs := []) (σ' := (171, [some (.ref 100), some (.int c0)], [], (SS b c), (upI (upI (r4 I (nI (p + k + 1)) f t (dvR (I 118) p k)) 100 27 (dvR (I 118) p k)) 100 24 ((nI (p + k + 1)) + 1)), J, 0, 0)) rfl trivial ?_
        simp only [r4_24, r4_25, r4_26, r4_27]
        show Rj _ _ _ _ _ _ (171, [some (.ref 100), some (.int c0)], [], (SS b c), (r4 I ((nI (p + k + 1)) + 1) f t (dvR (I 118) p k)), J, 0, 0)
        rw [nI_eq1]
        rw [rnE, if_pos h183s] at K
        have h := ih (k + 1) (by omega) K
        rw [dvR, if_pos h194] at h
        exact h
      · refine r_run okX12_next 7 (cs := []) (σ' := (209, [some (.ref 100), some (.int c0)], [.int (nI (p + k + 1)), .ref 100, .int (10 * (dvR (I 118) p k)), .ref 100], (SS b c), (r4 I (nI (p + k + 1)) f t (dvR (I 118) p k)), J, 0, 0)) rfl trivial ?_
        refine r_callV okX12_next okX12_raw [.int (nI (p + k + 1))] [.int (10 * (dvR (I 118) p k)), .ref 100] 100 rfl rfl rfl kkX12_raw rfl rfl (by decide) rfl rfl rfl (by decide) ⟨Nat.le_refl _, Nat.le_refl _⟩ (Nat.le_of_ble_eq_true rfl) (c_raw γ (I := (r4 I (nI (p + k + 1)) f t (dvR (I 118) p k))) (I 118) n (p + k + 1) rfl hn h8 (by omega) (by first | rfl | exact nI_eq1) (rwV_lt (by omega))) (fun v1 S1 I1 J1 hp => ?_)
        obtain ⟨rfl, rfl, rfl, rfl⟩ := hp
        show Rj _ _ _ _ _ _ (212, [some (.ref 100), some (.int c0)], [.int (I 118 (p + k + 1)), .int (10 * (dvR (I 118) p k)), .ref 100], (SS b c), (r4 I (nI (p + k + 1)) f t (dvR (I 118) p k)), J, 0, 0)
        refine r_run okX12_next 12 (cs := []) (σ' := (171, [some (.ref 100), some (.int c0)], [], (SS b c), (upI (upI (r4 I (nI (p + k + 1)) f t (dvR (I 118) p k)) 100 27 (((10 * (dvR (I 118) p k)) + (I 118 (p + k + 1))) - 48)) 100 24 ((nI (p + k + 1)) + 1)), J, 0, 0)) rfl trivial ?_
        simp only [r4_24, r4_25, r4_26, r4_27]
        show Rj _ _ _ _ _ _ (171, [some (.ref 100), some (.int c0)], [], (SS b c), (r4 I ((nI (p + k + 1)) + 1) f t (((10 * (dvR (I 118) p k)) + (I 118 (p + k + 1))) - 48)), J, 0, 0)
        rw [nI_eq1]
        rw [rnE, if_pos h183s] at K
        have h := ih (k + 1) (by omega) K
        rw [dvR, if_neg h194] at h
        exact h
theorem nx_39 (γ : GE) {b c : Bool} {I : AI} {J : AJ} (f t v : Int32) (n : Nat) (hn : I 100 23 = nI n) (h8 : n ≤ 800) (hT : ∀ q, q < n → rg 256 (I 118 q)) (hW : MWds I) (p : Nat) (hp : p ≤ n) : Rj γ mX12_next 2 0 0 (fun r S' I' J' => none = r ∧ (SS b c) = S' ∧ (∃ tok val, I' = r4 I (nI (toE (I 118) n p)) (nI p) tok val ∧ toR (toK (I 118) n p) (toV (I 118) n p) tok val) ∧ J = J') (39, [some (.ref 100), none], [], (SS b c), (r4 I (nI p) f t v), J, 0, 0) := by
  rcases Nat.lt_or_ge p n with hpn | hpn
  · skip
    refine r_run okX12_next 10 (cs := []) (σ' := (57, [some (.ref 100), none], [.int (nI p), .ref 100], (SS b c), (upI (upI (r4 I (nI p) f t v) 100 25 (nI p)) 100 26 1), J, 0, 0)) rfl trivial ?_
    simp only [r4_24, r4_25, r4_26, r4_27]
    show Rj _ _ _ _ _ _ (57, [some (.ref 100), none], [.int (nI p), .ref 100], (SS b c), (r4 I (nI p) (nI p) 1 v), J, 0, 0)
    refine r_callV okX12_next okX12_raw [.int (nI p)] [] 100 rfl rfl rfl kkX12_raw rfl rfl (by decide) rfl rfl rfl (by decide) ⟨Nat.le_refl _, Nat.le_refl _⟩ (Nat.le_of_ble_eq_true rfl) (c_raw γ (I := (r4 I (nI p) (nI p) 1 v)) (I 118) n p rfl hn h8 (by omega) (by first | rfl | exact nI_eq1) (rwV_lt (by omega))) (fun v1 S1 I1 J1 hp => ?_)
    obtain ⟨rfl, rfl, rfl, rfl⟩ := hp
    show Rj _ _ _ _ _ _ (60, [some (.ref 100), none], [.int (I 118 p)], (SS b c), (r4 I (nI p) (nI p) 1 v), J, 0, 0)
    refine r_run okX12_next 3 (cs := []) (σ' := (63, [some (.ref 100), some (.int (I 118 p))], [.int (-1), .int (I 118 p)], (SS b c), (r4 I (nI p) (nI p) 1 v), J, 0, 0)) rfl trivial ?_
    refine r_icmp okX12_next rfl (fun (h63 : ¬ (I 118 p) = ((-1) : Int32)) => ?_) (fun h630 => ?_)
    · refine r_run okX12_next 11 (cs := []) (σ' := (89, [some (.ref 100), some (.int (I 118 p))], [.int (I 118 p), .ref 100], (SS b c), (upI (upI (r4 I (nI p) (nI p) 1 v) 100 24 ((nI p) + 1)) 100 27 (I 118 p)), J, 0, 0)) rfl trivial ?_
      simp only [r4_24, r4_25, r4_26, r4_27]
      show Rj _ _ _ _ _ _ (89, [some (.ref 100), some (.int (I 118 p))], [.int (I 118 p), .ref 100], (SS b c), (r4 I ((nI p) + 1) (nI p) 1 (I 118 p)), J, 0, 0)
      refine r_callV okX12_next okX12_isLetter [.int (I 118 p)] [] 100 rfl rfl rfl kkX12_isLetter rfl rfl (by decide) rfl rfl rfl (by decide) ⟨Nat.le_refl _, Nat.le_refl _⟩ (Nat.le_of_ble_eq_true rfl) (c_isLetter γ (I 118 p)) (fun v1 S1 I1 J1 hp => ?_)
      obtain ⟨rfl, rfl, rfl, rfl⟩ := hp
      show Rj _ _ _ _ _ _ (92, [some (.ref 100), some (.int (I 118 p))], [.int (bi (leB (I 118 p)))], (SS b c), (r4 I ((nI p) + 1) (nI p) 1 (I 118 p)), J, 0, 0)
      refine r_ifc okX12_next rfl (fun (h92 : (bi (leB (I 118 p))) = (0 : Int32)) => ?_) (fun (h92 : ¬ (bi (leB (I 118 p))) = (0 : Int32)) => ?_)
      · have h92s := bi_0.mp h92
        refine r_run okX12_next 2 (cs := []) (σ' := (157, [some (.ref 100), some (.int (I 118 p))], [.int (I 118 p), .ref 100], (SS b c), (r4 I ((nI p) + 1) (nI p) 1 (I 118 p)), J, 0, 0)) rfl trivial ?_
        refine r_callV okX12_next okX12_isDigit [.int (I 118 p)] [] 100 rfl rfl rfl kkX12_isDigit rfl rfl (by decide) rfl rfl rfl (by decide) ⟨Nat.le_refl _, Nat.le_refl _⟩ (Nat.le_of_ble_eq_true rfl) (c_isDigit γ (I 118 p)) (fun v1 S1 I1 J1 hp => ?_)
        obtain ⟨rfl, rfl, rfl, rfl⟩ := hp
        show Rj _ _ _ _ _ _ (160, [some (.ref 100), some (.int (I 118 p))], [.int (bi (diB (I 118 p)))], (SS b c), (r4 I ((nI p) + 1) (nI p) 1 (I 118 p)), J, 0, 0)
        refine r_ifc okX12_next rfl (fun (h160 : (bi (diB (I 118 p))) = (0 : Int32)) => ?_) (fun (h160 : ¬ (bi (diB (I 118 p))) = (0 : Int32)) => ?_)
        · have h160s := bi_0.mp h160
          refine r_run okX12_next 2 (cs := []) (σ' := (262, [some (.ref 100), some (.int (I 118 p))], [.int (I 118 p), .ref 100], (SS b c), (r4 I ((nI p) + 1) (nI p) 1 (I 118 p)), J, 0, 0)) rfl trivial ?_
          refine r_callV okX12_next okX12_isMarkSign [.int (I 118 p)] [] 100 rfl rfl rfl kkX12_isMarkSign rfl rfl (by decide) rfl rfl rfl (by decide) ⟨Nat.le_refl _, Nat.le_refl _⟩ (Nat.le_of_ble_eq_true rfl) (c_isMarkSign γ (I 118 p)) (fun v1 S1 I1 J1 hp => ?_)
          obtain ⟨rfl, rfl, rfl, rfl⟩ := hp
          show Rj _ _ _ _ _ _ (265, [some (.ref 100), some (.int (I 118 p))], [.int (bi (siB (I 118 p)))], (SS b c), (r4 I ((nI p) + 1) (nI p) 1 (I 118 p)), J, 0, 0)
          refine r_ifc okX12_next rfl (fun (h265 : (bi (siB (I 118 p))) = (0 : Int32)) => ?_) (fun (h265 : ¬ (bi (siB (I 118 p))) = (0 : Int32)) => ?_)
          · have h265s := bi_0.mp h265
            refine r_vret okX12_next rfl rfl (Nat.le_refl _) (Nat.le_refl _) ?_
            refine ⟨rfl, rfl, ⟨1, I 118 p, ?_, ?_⟩, rfl⟩
            · rw [toE, if_neg (by omega), if_neg (by rw [h92s]; decide), if_neg (by rw [h160s]; decide), nI_eq1]
            · rw [toK, if_neg (by omega), if_neg (by rw [h92s]; decide), if_neg (by rw [h160s]; decide), if_neg (by rw [h265s]; decide)]; exact Or.inr (Or.inl ⟨rfl, rfl⟩)
          · have h265s := bi_n0.mp h265
            refine r_run okX12_next 3 (cs := []) (σ' := (273, [some (.ref 100), some (.int (I 118 p))], [], (SS b c), (upI (r4 I ((nI p) + 1) (nI p) 1 (I 118 p)) 100 26 4), J, 0, 0)) rfl trivial ?_
            simp only [r4_24, r4_25, r4_26, r4_27]
            show Rj _ _ _ _ _ _ (273, [some (.ref 100), some (.int (I 118 p))], [], (SS b c), (r4 I ((nI p) + 1) (nI p) 4 (I 118 p)), J, 0, 0)
            refine r_vret okX12_next rfl rfl (Nat.le_refl _) (Nat.le_refl _) ?_
            refine ⟨rfl, rfl, ⟨4, I 118 p, ?_, ?_⟩, rfl⟩
            · rw [toE, if_neg (by omega), if_neg (by rw [h92s]; decide), if_neg (by rw [h160s]; decide), nI_eq1]
            · rw [toK, if_neg (by omega), if_neg (by rw [h92s]; decide), if_neg (by rw [h160s]; decide), if_pos h265s]; exact Or.inr (Or.inr (Or.inr (Or.inr ⟨h265s, rfl, rfl⟩)))
        · have h160s := bi_n0.mp h160
          refine r_run okX12_next 5 (cs := []) (σ' := (171, [some (.ref 100), some (.int (I 118 p))], [], (SS b c), (upI (r4 I ((nI p) + 1) (nI p) 1 (I 118 p)) 100 27 ((I 118 p) - 48)), J, 0, 0)) rfl trivial ?_
          simp only [r4_24, r4_25, r4_26, r4_27]
          show Rj _ _ _ _ _ _ (171, [some (.ref 100), some (.int (I 118 p))], [], (SS b c), (r4 I ((nI p) + 1) (nI p) 1 ((I 118 p) - 48)), J, 0, 0)
          have hpn : p < n := by omega
          obtain ⟨z, ez⟩ : ∃ z, z = rnE diB (I 118) (n - (p + 1)) (p + 1) := ⟨_, rfl⟩
          have hz := rnE_le (P := diB) (T := I 118) (n - (p + 1)) (p + 1)
          have eE : toE (I 118) n p = z := by rw [toE, if_neg (by omega), if_neg (by rw [h92s]; decide), if_pos h160s, rnE_s hpn h160s, ez]
          have hdi : ∀ q, p ≤ q → q < z → diB (I 118 q) = true := fun q h1 h2 => by
            by_cases e : q = p
            · rw [e]; exact h160s
            · exact rnE_all (n - (p + 1)) (p + 1) q (by omega) (by rw [← ez]; exact h2)
          have esub : nI z - nI p = nI (z - p) := by rw [show z = z - p + p by omega, ← nI_ad, Nat.add_sub_cancel]; exact Int32.add_sub_cancel _ _
          rw [nI_eq1]
          refine lp_nxC γ _ _ _ p n hn h8 hT hW (n - (p + 1)) 0 (by omega) ?_
          rw [← ez]
          refine r_run okX12_next 6 (cs := []) (σ' := (249, [some (.ref 100), some (.int (I 118 p))], [.int 5, .int ((nI z) - (nI p))], (SS b c), (r4 I (nI z) (nI p) 1 (dvR (I 118) p (z - p - 1))), J, 0, 0)) rfl trivial ?_
          refine r_icmp okX12_next rfl (fun (h249 : (5 : Int32) ≤ ((nI z) - (nI p))) => ?_) (fun (h249 : ¬ (5 : Int32) ≤ ((nI z) - (nI p))) => ?_)
          · refine r_vret okX12_next rfl rfl (Nat.le_refl _) (Nat.le_refl _) ?_
            refine ⟨rfl, rfl, ⟨1, dvR (I 118) p (z - p - 1), ?_, ?_⟩, rfl⟩
            · rw [eE]
            · rw [toK, if_neg (by omega), if_neg (by rw [h92s]; decide), if_pos h160s, eE]; rw [if_neg (fun q => absurd h249 (by rw [esub]; exact nI_ge (b := 5) (by omega) (by decide)))]; exact Or.inr (Or.inl ⟨rfl, rfl⟩)
          · refine r_run okX12_next 4 (cs := []) (σ' := (273, [some (.ref 100), some (.int (I 118 p))], [], (SS b c), (upI (r4 I (nI z) (nI p) 1 (dvR (I 118) p (z - p - 1))) 100 26 3), J, 0, 0)) rfl trivial ?_
            simp only [r4_24, r4_25, r4_26, r4_27]
            show Rj _ _ _ _ _ _ (273, [some (.ref 100), some (.int (I 118 p))], [], (SS b c), (r4 I (nI z) (nI p) 3 (dvR (I 118) p (z - p - 1))), J, 0, 0)
            refine r_vret okX12_next rfl rfl (Nat.le_refl _) (Nat.le_refl _) ?_
            refine ⟨rfl, rfl, ⟨3, dvR (I 118) p (z - p - 1), ?_, ?_⟩, rfl⟩
            · rw [eE]
            · rw [toK, if_neg (by omega), if_neg (by rw [h92s]; decide), if_pos h160s, eE]; have h4 : z - p ≤ 4 := Nat.le_of_not_lt fun q => absurd (by rw [esub]; exact nI_le (a := 5) q (by omega)) h249
              rw [if_pos h4]; exact Or.inr (Or.inr (Or.inr (Or.inl ⟨rfl, rfl, by rw [toV, eE, (dv_eq (T := I 118) (p := p) (z - p - 1) (by omega) (fun q hq => hdi (p + q) (by omega) (by omega))).1, show z - p - 1 + 1 = z - p by omega]⟩)))
      · have h92s := bi_n0.mp h92
        have hpn : p < n := by omega
        obtain ⟨z, ez⟩ : ∃ z, z = rnE leB (I 118) (n - (p + 1)) (p + 1) := ⟨_, rfl⟩
        have hz := rnE_le (P := leB) (T := I 118) (n - (p + 1)) (p + 1)
        have eE : toE (I 118) n p = z := by rw [toE, if_neg (by omega), if_pos h92s, rnE_s hpn h92s, ez]
        have hle : ∀ q, p ≤ q → q < z → leB (I 118 q) = true := fun q h1 h2 => by
          by_cases e : q = p
          · rw [e]; exact h92s
          · exact rnE_all (n - (p + 1)) (p + 1) q (by omega) (by rw [← ez]; exact h2)
        rw [nI_eq1]
        refine lp_nxB γ _ _ _ _ n hn h8 hT hW (n - (p + 1)) (p + 1) (by omega) ?_
        rw [← ez]
        refine r_run okX12_next 6 (cs := []) (σ' := (133, [some (.ref 100), some (.int (I 118 p))], [.int (nI z), .int (nI p), .ref 100, .ref 100], (SS b c), (r4 I (nI z) (nI p) 1 (I 118 p)), J, 0, 0)) rfl trivial ?_
        refine r_callV okX12_next okX12_wordAt [.int (nI p), .int (nI z)] [.ref 100] 100 rfl rfl rfl kkX12_wordAt rfl rfl (by decide) rfl rfl rfl (by decide) ⟨Nat.le_refl _, Nat.le_refl _⟩ (Nat.le_of_ble_eq_true rfl) (c_wordAt1 γ (I := r4 I (nI z) (nI p) 1 (I 118 p)) (T := I 118) rfl p z hW (by omega) (by omega) hle) (fun v1 S1 I1 J1 hp => ?_)
        obtain ⟨rfl, rfl, rfl, rfl⟩ := hp
        show Rj _ _ _ _ _ _ (136, [some (.ref 100), some (.int (I 118 p))], [.int (wdN (I 118) p z), .ref 100], (SS b c), (r4 I (nI z) (nI p) 1 (I 118 p)), J, 0, 0)
        refine r_run okX12_next 4 (cs := []) (σ' := (144, [some (.ref 100), some (.int (I 118 p))], [.int (-1), .int (wdN (I 118) p z)], (SS b c), (upI (r4 I (nI z) (nI p) 1 (I 118 p)) 100 27 (wdN (I 118) p z)), J, 0, 0)) rfl trivial ?_
        simp only [r4_24, r4_25, r4_26, r4_27]
        show Rj _ _ _ _ _ _ (144, [some (.ref 100), some (.int (I 118 p))], [.int (-1), .int (wdN (I 118) p z)], (SS b c), (r4 I (nI z) (nI p) 1 (wdN (I 118) p z)), J, 0, 0)
        refine r_icmp okX12_next rfl (fun (h144 : (wdN (I 118) p z) = ((-1) : Int32)) => ?_) (fun (h144 : ¬ (wdN (I 118) p z) = ((-1) : Int32)) => ?_)
        · refine r_vret okX12_next rfl rfl (Nat.le_refl _) (Nat.le_refl _) ?_
          refine ⟨rfl, rfl, ⟨1, wdN (I 118) p z, ?_, ?_⟩, rfl⟩
          · rw [eE]
          · rw [toK, if_neg (by omega), if_pos h92s, eE]; rw [if_pos h144]; exact Or.inr (Or.inl ⟨rfl, rfl⟩)
        · refine r_run okX12_next 4 (cs := []) (σ' := (273, [some (.ref 100), some (.int (I 118 p))], [], (SS b c), (upI (r4 I (nI z) (nI p) 1 (wdN (I 118) p z)) 100 26 2), J, 0, 0)) rfl trivial ?_
          simp only [r4_24, r4_25, r4_26, r4_27]
          show Rj _ _ _ _ _ _ (273, [some (.ref 100), some (.int (I 118 p))], [], (SS b c), (r4 I (nI z) (nI p) 2 (wdN (I 118) p z)), J, 0, 0)
          refine r_vret okX12_next rfl rfl (Nat.le_refl _) (Nat.le_refl _) ?_
          refine ⟨rfl, rfl, ⟨2, wdN (I 118) p z, ?_, ?_⟩, rfl⟩
          · rw [eE]
          · rw [toK, if_neg (by omega), if_pos h92s, eE]; rw [if_neg h144]; exact Or.inr (Or.inr (Or.inl ⟨wdN_rg.resolve_left h144, rfl, rfl⟩))
    · have h63 : (I 118 p) = ((-1) : Int32) := Classical.not_not.mp h630
      exact absurd h63 (by obtain ⟨z, hz, ez⟩ := hT p (by omega); rw [ez]; exact nI_m1 (by omega))
  · skip
    refine r_run okX12_next 10 (cs := []) (σ' := (57, [some (.ref 100), none], [.int (nI p), .ref 100], (SS b c), (upI (upI (r4 I (nI p) f t v) 100 25 (nI p)) 100 26 1), J, 0, 0)) rfl trivial ?_
    simp only [r4_24, r4_25, r4_26, r4_27]
    show Rj _ _ _ _ _ _ (57, [some (.ref 100), none], [.int (nI p), .ref 100], (SS b c), (r4 I (nI p) (nI p) 1 v), J, 0, 0)
    refine r_callV okX12_next okX12_raw [.int (nI p)] [] 100 rfl rfl rfl kkX12_raw rfl rfl (by decide) rfl rfl rfl (by decide) ⟨Nat.le_refl _, Nat.le_refl _⟩ (Nat.le_of_ble_eq_true rfl) (c_raw γ (I := (r4 I (nI p) (nI p) 1 v)) (I 118) n p rfl hn h8 (by omega) (by first | rfl | exact nI_eq1) (rwV_ge (by omega))) (fun v1 S1 I1 J1 hp => ?_)
    obtain ⟨rfl, rfl, rfl, rfl⟩ := hp
    show Rj _ _ _ _ _ _ (60, [some (.ref 100), none], [.int (-1)], (SS b c), (r4 I (nI p) (nI p) 1 v), J, 0, 0)
    refine r_run okX12_next 3 (cs := []) (σ' := (63, [some (.ref 100), some (.int (-1))], [.int (-1), .int (-1)], (SS b c), (r4 I (nI p) (nI p) 1 v), J, 0, 0)) rfl trivial ?_
    refine r_icmp okX12_next rfl (fun (h63 : ¬ ((-1) : Int32) = ((-1) : Int32)) => ?_) (fun h630 => ?_)
    · exact absurd h63 (by decide)
    · have h63 : ((-1) : Int32) = ((-1) : Int32) := Classical.not_not.mp h630
      refine r_run okX12_next 3 (cs := []) (σ' := (71, [some (.ref 100), some (.int (-1))], [], (SS b c), (upI (r4 I (nI p) (nI p) 1 v) 100 26 0), J, 0, 0)) rfl trivial ?_
      simp only [r4_24, r4_25, r4_26, r4_27]
      show Rj _ _ _ _ _ _ (71, [some (.ref 100), some (.int (-1))], [], (SS b c), (r4 I (nI p) (nI p) 0 v), J, 0, 0)
      refine r_vret okX12_next rfl rfl (Nat.le_refl _) (Nat.le_refl _) ?_
      refine ⟨rfl, rfl, ⟨0, v, ?_, ?_⟩, rfl⟩
      · rw [toE, if_pos (by omega)]
      · rw [toK, if_pos (by omega)]; exact Or.inl ⟨rfl, rfl⟩
theorem c_next (γ : GE) {b c : Bool} {I : AI} {J : AJ} (n : Nat) (hn : I 100 23 = nI n) (h8 : n ≤ 800) (hT : ∀ q, q < n → rg 256 (I 118 q)) (hW : MWds I) (p : Nat) (hp : p ≤ n) (ep : I 100 24 = nI p) : Ct γ mX12_next 2 0 0 [.ref 100] (SS b c) I J (fun r S' I' J' => none = r ∧ (SS b c) = S' ∧ (∃ tok val, I' = r4 I (nI (toE (I 118) n (skE (I 118) n p))) (nI (skE (I 118) n p)) tok val ∧ toR (toK (I 118) n (skE (I 118) n p)) (toV (I 118) n (skE (I 118) n p)) tok val) ∧ J = J') := by
  refine ct_of okX12_next (L := [some (.ref 100), none]) (Nat.le_of_ble_eq_true rfl) rfl ?_
  have hs := rnE_le (P := blB) (T := I 118) (n - p) p
  have h := lp_nxA γ (b := b) (c := c) (I := I) (J := J) (Post := (fun r S' I' J' => none = r ∧ (SS b c) = S' ∧ (∃ tok val, I' = r4 I (nI (toE (I 118) n (skE (I 118) n p))) (nI (skE (I 118) n p)) tok val ∧ toR (toK (I 118) n (skE (I 118) n p)) (toV (I 118) n (skE (I 118) n p)) tok val) ∧ J = J')) (I 100 25) (I 100 26) (I 100 27) n hn h8 hT hW (n - p) p (by omega) (nx_39 γ _ _ _ n hn h8 hT hW _ (show rnE blB (I 118) (n - p) p ≤ n by omega))
  rw [← ep, r4_self] at h
  exact h
