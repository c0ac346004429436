/-! ===== the reference reads: signs, words ===== -/
def blB (c : Int32) : Bool := decide (c = 32) || decide (c = 10)
def leB (c : Int32) : Bool := inB c 97 122 || inB c 65 90
def diB (c : Int32) : Bool := inB c 48 57
def siB (c : Int32) : Bool := decide (c = 59) || (decide (c = 43) || (decide (c = 45) || (decide (c = 42) || (decide (c = 47) || (decide (c = 40) || (decide (c = 41) || (decide (c = 60) || (decide (c = 61) || decide (c = 62)))))))))
def WL : List Int32 := [32, 119, 97, 114, 110, 32, 108, 105, 102, 116, 32, 119, 97, 105, 116, 32, 119, 104, 101, 110, 32, 111, 114, 32, 97, 110, 100, 32, 110, 111, 116, 32, 115, 101, 101, 110, 32, 119, 111, 114, 100, 115, 32, 100, 111, 117, 98, 116, 102, 117, 108, 32, 110, 101, 97, 114, 32, 115, 111, 111, 110, 32, 112, 101, 111, 112, 108, 101, 32, 108, 101, 102, 116, 32, 101, 97, 114, 115, 32, 104, 111, 117, 114, 32]
def WD (i : Nat) : Int32 := WL.getD i 0
/-- where a run of signs ends -/
def rnE (P : Int32 → Bool) (T : Nat → Int32) : Nat → Nat → Nat
  | 0, p => p
  | m + 1, p => if P (T p) then rnE P T m (p + 1) else p
theorem rnE_le {P : Int32 → Bool} {T : Nat → Int32} : ∀ (m p : Nat), p ≤ rnE P T m p ∧ rnE P T m p ≤ p + m
  | 0, p => ⟨Nat.le_refl _, Nat.le_refl _⟩
  | m + 1, p => by
    unfold rnE
    split
    · have := rnE_le (P := P) (T := T) m (p + 1); omega
    · omega
theorem rnE_all {P : Int32 → Bool} {T : Nat → Int32} : ∀ (m p : Nat), ∀ q, p ≤ q → q < rnE P T m p → P (T q) = true
  | 0, p, q, h1, h2 => by unfold rnE at h2; omega
  | m + 1, p, q, h1, h2 => by
    unfold rnE at h2
    split at h2
    · rename_i h
      by_cases e : q = p
      · rw [e]; exact h
      · exact rnE_all m (p + 1) q (by omega) h2
    · omega
def rwV (T : Nat → Int32) (n k : Nat) : Int32 := if k < n then T k else -1
def wdB (T : Nat → Int32) (a b k : Nat) : Bool := (List.range (b - a)).all (fun j => decide (WD (k + 1 + j) = T (a + j))) && decide (WD (k + 1 + (b - a)) = 32)
def wdF (T : Nat → Int32) (a b : Nat) : List Nat → Nat → Int32
  | [], _ => -1
  | k :: l, w => if wdB T a b k then nI w else wdF T a b l (w + 1)
def spL : List Nat := [0, 5, 10, 15, 20, 23, 27, 31, 36, 42, 51, 56, 61, 68, 73, 78]
def wdN (T : Nat → Int32) (a b : Nat) : Int32 := wdF T a b spL 0
def MWds (I : AI) : Prop := ∀ i, i < 84 → I 119 i = WD i
theorem c_raw0 (γ : GE) {b c : Bool} {I : AI} {J : AJ} (T : Nat → Int32) (n k : Nat) (hT : I 118 = T) (hn : I 100 23 = nI n) (h8 : n ≤ 800) (hk : k ≤ 800) : Ct γ mX12_raw 0 0 0 [.ref 100, .int (nI k)] (SS b c) I J (rI (rwV T n k) (SS b c) I J) := by
  have ck : (nI k).toNatClampNeg = k := nI_clamp (by omega)
  refine ct_of okX12_raw (L := [some (.ref 100), some (.int (nI k))]) (Nat.le_of_ble_eq_true rfl) rfl ?_
  refine r_run okX12_raw 3 (cs := []) (σ' := (5, [some (.ref 100), some (.int (nI k))], [.int (I 100 23), .int (nI k)], (SS b c), I, J, 0, 0)) rfl trivial ?_
  refine r_icmp okX12_raw rfl (fun (h5 : (I 100 23) ≤ (nI k)) => ?_) (fun (h5 : ¬ (I 100 23) ≤ (nI k)) => ?_)
  · refine r_run okX12_raw 1 (cs := []) (σ' := (18, [some (.ref 100), some (.int (nI k))], [.int (-1)], (SS b c), I, J, 0, 0)) rfl trivial ?_
    refine r_iret okX12_raw rfl rfl rfl (Nat.le_refl _) (Nat.le_refl _) ?_
    refine ⟨?_, rfl, rfl, rfl⟩
    unfold rwV
    rw [if_neg (fun z => absurd h5 (by rw [hn]; exact nI_ge z (by omega)))]
  · refine r_run okX12_raw 5 (cs := [vp_in (nI k) 800]) (σ' := (18, [some (.ref 100), some (.int (nI k))], [.int (I 118 ((nI k).toNatClampNeg))], (SS b c), I, J, 0, 0)) rfl ⟨(vin (Nat.lt_of_lt_of_le (Nat.lt_of_not_le fun z => h5 (by rw [hn]; exact nI_le z (by omega))) h8) (by decide)), trivial⟩ ?_
    simp only [ck]
    show Rj _ _ _ _ _ _ (18, [some (.ref 100), some (.int (nI k))], [.int (I 118 k)], (SS b c), I, J, 0, 0)
    refine r_iret okX12_raw rfl rfl rfl (Nat.le_refl _) (Nat.le_refl _) ?_
    refine ⟨?_, rfl, rfl, rfl⟩
    unfold rwV
    rw [if_pos (Nat.lt_of_not_le fun z => h5 (by rw [hn]; exact nI_le z (by omega))), hT]
theorem c_raw (γ : GE) {b c : Bool} {I : AI} {J : AJ} (T : Nat → Int32) (n k : Nat) (hT : I 118 = T) (hn : I 100 23 = nI n) (h8 : n ≤ 800) (hk : k ≤ 800) {A x : Int32} (eA : A = nI k) (ex : rwV T n k = x) : Ct γ mX12_raw 0 0 0 [.ref 100, .int A] (SS b c) I J (rI x (SS b c) I J) := by
  subst eA; subst ex; exact c_raw0 γ T n k hT hn h8 hk
theorem c_isLetter (γ : GE) {b c : Bool} {I : AI} {J : AJ} (v : Int32) : Ct γ mX12_isLetter 1 0 0 [.ref 100, .int v] (SS b c) I J (rI (bi (leB v)) (SS b c) I J) := by
  refine ct_of okX12_isLetter (L := [some (.ref 100), some (.int v)]) (Nat.le_of_ble_eq_true rfl) rfl ?_
  refine r_run okX12_isLetter 4 (cs := []) (σ' := (6, [some (.ref 100), some (.int v)], [.int 122, .int 97, .int v, .ref 100], (SS b c), I, J, 0, 0)) rfl trivial ?_
  refine r_callV okX12_isLetter okX12_isIn [.int v, .int 97, .int 122] [] 100 rfl rfl rfl kkX12_isIn rfl rfl (by decide) rfl rfl rfl (by decide) ⟨Nat.le_refl _, Nat.le_refl _⟩ (Nat.le_of_ble_eq_true rfl) (c_isIn γ v 97 122) (fun v1 S1 I1 J1 hp => ?_)
  obtain ⟨rfl, rfl, rfl, rfl⟩ := hp
  show Rj _ _ _ _ _ _ (9, [some (.ref 100), some (.int v)], [.int (bi (inB v 97 122))], (SS b c), I, J, 0, 0)
  refine r_ifc okX12_isLetter rfl (fun (h9 : ¬ (bi (inB v 97 122)) = (0 : Int32)) => ?_) (fun h90 => ?_)
  · have h9s := bi_n0.mp h9
    refine r_run okX12_isLetter 2 (cs := []) (σ' := (29, [some (.ref 100), some (.int v)], [.int 1], (SS b c), I, J, 0, 0)) rfl trivial ?_
    refine r_iret okX12_isLetter rfl rfl (by decide +kernel) (Nat.le_refl _) (Nat.le_refl _) ?_
    exact ⟨by simp [leB, bi_t, bi_f, *], rfl, rfl, rfl⟩
  · have h9 : (bi (inB v 97 122)) = (0 : Int32) := Classical.not_not.mp h90
    have h9s := bi_0.mp h9
    refine r_run okX12_isLetter 4 (cs := []) (σ' := (18, [some (.ref 100), some (.int v)], [.int 90, .int 65, .int v, .ref 100], (SS b c), I, J, 0, 0)) rfl trivial ?_
    refine r_callV okX12_isLetter okX12_isIn [.int v, .int 65, .int 90] [] 100 rfl rfl rfl kkX12_isIn rfl rfl (by decide) rfl rfl rfl (by decide) ⟨Nat.le_refl _, Nat.le_refl _⟩ (Nat.le_of_ble_eq_true rfl) (c_isIn γ v 65 90) (fun v1 S1 I1 J1 hp => ?_)
    obtain ⟨rfl, rfl, rfl, rfl⟩ := hp
    show Rj _ _ _ _ _ _ (21, [some (.ref 100), some (.int v)], [.int (bi (inB v 65 90))], (SS b c), I, J, 0, 0)
    refine r_ifc okX12_isLetter rfl (fun (h21 : (bi (inB v 65 90)) = (0 : Int32)) => ?_) (fun (h21 : ¬ (bi (inB v 65 90)) = (0 : Int32)) => ?_)
    · have h21s := bi_0.mp h21
      refine r_run okX12_isLetter 1 (cs := []) (σ' := (29, [some (.ref 100), some (.int v)], [.int 0], (SS b c), I, J, 0, 0)) rfl trivial ?_
      refine r_iret okX12_isLetter rfl rfl (by decide +kernel) (Nat.le_refl _) (Nat.le_refl _) ?_
      exact ⟨by simp [leB, bi_t, bi_f, *], rfl, rfl, rfl⟩
    · have h21s := bi_n0.mp h21
      refine r_run okX12_isLetter 2 (cs := []) (σ' := (29, [some (.ref 100), some (.int v)], [.int 1], (SS b c), I, J, 0, 0)) rfl trivial ?_
      refine r_iret okX12_isLetter rfl rfl (by decide +kernel) (Nat.le_refl _) (Nat.le_refl _) ?_
      exact ⟨by simp [leB, bi_t, bi_f, *], rfl, rfl, rfl⟩
theorem c_isDigit (γ : GE) {b c : Bool} {I : AI} {J : AJ} (v : Int32) : Ct γ mX12_isDigit 1 0 0 [.ref 100, .int v] (SS b c) I J (rI (bi (diB v)) (SS b c) I J) := by
  refine ct_of okX12_isDigit (L := [some (.ref 100), some (.int v)]) (Nat.le_of_ble_eq_true rfl) rfl ?_
  refine r_run okX12_isDigit 4 (cs := []) (σ' := (6, [some (.ref 100), some (.int v)], [.int 57, .int 48, .int v, .ref 100], (SS b c), I, J, 0, 0)) rfl trivial ?_
  refine r_callV okX12_isDigit okX12_isIn [.int v, .int 48, .int 57] [] 100 rfl rfl rfl kkX12_isIn rfl rfl (by decide) rfl rfl rfl (by decide) ⟨Nat.le_refl _, Nat.le_refl _⟩ (Nat.le_of_ble_eq_true rfl) (c_isIn γ v 48 57) (fun v1 S1 I1 J1 hp => ?_)
  obtain ⟨rfl, rfl, rfl, rfl⟩ := hp
  show Rj _ _ _ _ _ _ (9, [some (.ref 100), some (.int v)], [.int (bi (inB v 48 57))], (SS b c), I, J, 0, 0)
  refine r_iret okX12_isDigit rfl rfl (nar_b (bi_bz _)) (Nat.le_refl _) (Nat.le_refl _) ?_
  exact ⟨by simp [diB, bi_t, bi_f, *], rfl, rfl, rfl⟩
theorem c_isMarkSign (γ : GE) {b c : Bool} {I : AI} {J : AJ} (v : Int32) : Ct γ mX12_isMarkSign 0 0 0 [.ref 100, .int v] (SS b c) I J (rI (bi (siB v)) (SS b c) I J) := by
  refine ct_of okX12_isMarkSign (L := [some (.ref 100), some (.int v)]) (Nat.le_of_ble_eq_true rfl) rfl ?_
  refine r_run okX12_isMarkSign 2 (cs := []) (σ' := (3, [some (.ref 100), some (.int v)], [.int 59, .int v], (SS b c), I, J, 0, 0)) rfl trivial ?_
  refine r_icmp okX12_isMarkSign rfl (fun (h3 : v = (59 : Int32)) => ?_) (fun (h3 : ¬ v = (59 : Int32)) => ?_)
  · refine r_run okX12_isMarkSign 2 (cs := []) (σ' := (65, [some (.ref 100), some (.int v)], [.int 1], (SS b c), I, J, 0, 0)) rfl trivial ?_
    refine r_iret okX12_isMarkSign rfl rfl (by decide +kernel) (Nat.le_refl _) (Nat.le_refl _) ?_
    exact ⟨by simp [siB, bi_t, bi_f, *], rfl, rfl, rfl⟩
  · refine r_run okX12_isMarkSign 2 (cs := []) (σ' := (9, [some (.ref 100), some (.int v)], [.int 43, .int v], (SS b c), I, J, 0, 0)) rfl trivial ?_
    refine r_icmp okX12_isMarkSign rfl (fun (h9 : v = (43 : Int32)) => ?_) (fun (h9 : ¬ v = (43 : Int32)) => ?_)
    · refine r_run okX12_isMarkSign 2 (cs := []) (σ' := (65, [some (.ref 100), some (.int v)], [.int 1], (SS b c), I, J, 0, 0)) rfl trivial ?_
      refine r_iret okX12_isMarkSign rfl rfl (by decide +kernel) (Nat.le_refl _) (Nat.le_refl _) ?_
      exact ⟨by simp [siB, bi_t, bi_f, *], rfl, rfl, rfl⟩
    · refine r_run okX12_isMarkSign 2 (cs := []) (σ' := (15, [some (.ref 100), some (.int v)], [.int 45, .int v], (SS b c), I, J, 0, 0)) rfl trivial ?_
      refine r_icmp okX12_isMarkSign rfl (fun (h15 : v = (45 : Int32)) => ?_) (fun (h15 : ¬ v = (45 : Int32)) => ?_)
      · refine r_run okX12_isMarkSign 2 (cs := []) (σ' := (65, [some (.ref 100), some (.int v)], [.int 1], (SS b c), I, J, 0, 0)) rfl trivial ?_
        refine r_iret okX12_isMarkSign rfl rfl (by decide +kernel) (Nat.le_refl _) (Nat.le_refl _) ?_
        exact ⟨by simp [siB, bi_t, bi_f, *], rfl, rfl, rfl⟩
      · refine r_run okX12_isMarkSign 2 (cs := []) (σ' := (21, [some (.ref 100), some (.int v)], [.int 42, .int v], (SS b c), I, J, 0, 0)) rfl trivial ?_
        refine r_icmp okX12_isMarkSign rfl (fun (h21 : v = (42 : Int32)) => ?_) (fun (h21 : ¬ v = (42 : Int32)) => ?_)
        · refine r_run okX12_isMarkSign 2 (cs := []) (σ' := (65, [some (.ref 100), some (.int v)], [.int 1], (SS b c), I, J, 0, 0)) rfl trivial ?_
          refine r_iret okX12_isMarkSign rfl rfl (by decide +kernel) (Nat.le_refl _) (Nat.le_refl _) ?_
          exact ⟨by simp [siB, bi_t, bi_f, *], rfl, rfl, rfl⟩
        · refine r_run okX12_isMarkSign 2 (cs := []) (σ' := (27, [some (.ref 100), some (.int v)], [.int 47, .int v], (SS b c), I, J, 0, 0)) rfl trivial ?_
          refine r_icmp okX12_isMarkSign rfl (fun (h27 : v = (47 : Int32)) => ?_) (fun (h27 : ¬ v = (47 : Int32)) => ?_)
          · refine r_run okX12_isMarkSign 2 (cs := []) (σ' := (65, [some (.ref 100), some (.int v)], [.int 1], (SS b c), I, J, 0, 0)) rfl trivial ?_
            refine r_iret okX12_isMarkSign rfl rfl (by decide +kernel) (Nat.le_refl _) (Nat.le_refl _) ?_
            exact ⟨by simp [siB, bi_t, bi_f, *], rfl, rfl, rfl⟩
          · refine r_run okX12_isMarkSign 2 (cs := []) (σ' := (33, [some (.ref 100), some (.int v)], [.int 40, .int v], (SS b c), I, J, 0, 0)) rfl trivial ?_
            refine r_icmp okX12_isMarkSign rfl (fun (h33 : v = (40 : Int32)) => ?_) (fun (h33 : ¬ v = (40 : Int32)) => ?_)
            · refine r_run okX12_isMarkSign 2 (cs := []) (σ' := (65, [some (.ref 100), some (.int v)], [.int 1], (SS b c), I, J, 0, 0)) rfl trivial ?_
              refine r_iret okX12_isMarkSign rfl rfl (by decide +kernel) (Nat.le_refl _) (Nat.le_refl _) ?_
              exact ⟨by simp [siB, bi_t, bi_f, *], rfl, rfl, rfl⟩
            · refine r_run okX12_isMarkSign 2 (cs := []) (σ' := (39, [some (.ref 100), some (.int v)], [.int 41, .int v], (SS b c), I, J, 0, 0)) rfl trivial ?_
              refine r_icmp okX12_isMarkSign rfl (fun (h39 : v = (41 : Int32)) => ?_) (fun (h39 : ¬ v = (41 : Int32)) => ?_)
              · refine r_run okX12_isMarkSign 2 (cs := []) (σ' := (65, [some (.ref 100), some (.int v)], [.int 1], (SS b c), I, J, 0, 0)) rfl trivial ?_
                refine r_iret okX12_isMarkSign rfl rfl (by decide +kernel) (Nat.le_refl _) (Nat.le_refl _) ?_
                exact ⟨by simp [siB, bi_t, bi_f, *], rfl, rfl, rfl⟩
              · refine r_run okX12_isMarkSign 2 (cs := []) (σ' := (45, [some (.ref 100), some (.int v)], [.int 60, .int v], (SS b c), I, J, 0, 0)) rfl trivial ?_
                refine r_icmp okX12_isMarkSign rfl (fun (h45 : v = (60 : Int32)) => ?_) (fun (h45 : ¬ v = (60 : Int32)) => ?_)
                · refine r_run okX12_isMarkSign 2 (cs := []) (σ' := (65, [some (.ref 100), some (.int v)], [.int 1], (SS b c), I, J, 0, 0)) rfl trivial ?_
                  refine r_iret okX12_isMarkSign rfl rfl (by decide +kernel) (Nat.le_refl _) (Nat.le_refl _) ?_
                  exact ⟨by simp [siB, bi_t, bi_f, *], rfl, rfl, rfl⟩
                · refine r_run okX12_isMarkSign 2 (cs := []) (σ' := (51, [some (.ref 100), some (.int v)], [.int 61, .int v], (SS b c), I, J, 0, 0)) rfl trivial ?_
                  refine r_icmp okX12_isMarkSign rfl (fun (h51 : v = (61 : Int32)) => ?_) (fun (h51 : ¬ v = (61 : Int32)) => ?_)
                  · refine r_run okX12_isMarkSign 2 (cs := []) (σ' := (65, [some (.ref 100), some (.int v)], [.int 1], (SS b c), I, J, 0, 0)) rfl trivial ?_
                    refine r_iret okX12_isMarkSign rfl rfl (by decide +kernel) (Nat.le_refl _) (Nat.le_refl _) ?_
                    exact ⟨by simp [siB, bi_t, bi_f, *], rfl, rfl, rfl⟩
                  · refine r_run okX12_isMarkSign 2 (cs := []) (σ' := (57, [some (.ref 100), some (.int v)], [.int 62, .int v], (SS b c), I, J, 0, 0)) rfl trivial ?_
                    refine r_icmp okX12_isMarkSign rfl (fun (h57 : ¬ v = (62 : Int32)) => ?_) (fun h570 => ?_)
                    · refine r_run okX12_isMarkSign 1 (cs := []) (σ' := (65, [some (.ref 100), some (.int v)], [.int 0], (SS b c), I, J, 0, 0)) rfl trivial ?_
                      refine r_iret okX12_isMarkSign rfl rfl (by decide +kernel) (Nat.le_refl _) (Nat.le_refl _) ?_
                      exact ⟨by simp [siB, bi_t, bi_f, *], rfl, rfl, rfl⟩
                    · have h57 : v = (62 : Int32) := Classical.not_not.mp h570
                      refine r_run okX12_isMarkSign 2 (cs := []) (σ' := (65, [some (.ref 100), some (.int v)], [.int 1], (SS b c), I, J, 0, 0)) rfl trivial ?_
                      refine r_iret okX12_isMarkSign rfl rfl (by decide +kernel) (Nat.le_refl _) (Nat.le_refl _) ?_
                      exact ⟨by simp [siB, bi_t, bi_f, *], rfl, rfl, rfl⟩
theorem WD_sp : ∀ k ∈ spL, ∃ e, k < e ∧ e ≤ 83 ∧ WD e = 32 ∧ (∀ j, k < j → j < e → ¬ WD j = 32) := by
  have h : ∀ k ∈ spL, ∃ e, e < 84 ∧ (k < e ∧ e ≤ 83 ∧ WD e = 32 ∧ (∀ j, j < e → k < j → ¬ WD j = 32)) := by decide +kernel
  intro k hk
  obtain ⟨e, -, h1, h2, h3, h4⟩ := h k hk
  exact ⟨e, h1, h2, h3, fun j q1 q2 => h4 j q2 q1⟩
theorem le_n32 {c : Int32} (h : leB c = true) : ¬ c = 32 := fun q => absurd h (by rw [q]; decide)
theorem wdB_t {T : Nat → Int32} {a z k : Nat} (h1 : ∀ j, j < z - a → WD (k + 1 + j) = T (a + j)) (h2 : WD (k + 1 + (z - a)) = 32) : wdB T a z k = true := by
  unfold wdB
  rw [Bool.and_eq_true]
  exact ⟨List.all_eq_true.mpr fun j hj => decide_eq_true (h1 j (List.mem_range.mp hj)), decide_eq_true h2⟩
theorem wdB_f1 {T : Nat → Int32} {a z k i : Nat} (hi : i < z - a) (h : ¬ WD (k + 1 + i) = T (a + i)) : wdB T a z k = false := by
  unfold wdB
  rw [Bool.and_eq_false_iff]
  exact Or.inl (List.all_eq_false.mpr ⟨i, List.mem_range.mpr hi, by simpa using h⟩)
theorem wdB_f2 {T : Nat → Int32} {a z k : Nat} (h : ¬ WD (k + 1 + (z - a)) = 32) : wdB T a z k = false := by
  unfold wdB
  rw [Bool.and_eq_false_iff]
  exact Or.inr (decide_eq_false h)
theorem lp_wd1 (γ : GE) {b c : Bool} {I : AI} {J : AJ} {Post : PT} (a z w : Nat) (hW : MWds I) (hz : z ≤ 800) (hle : ∀ q, a ≤ q → q < z → leB (I 118 q) = true) (k e : Nat) (hke : k < e) (he : e ≤ 83) (hek : WD e = 32) (haz : a ≤ z) (K1 : wdB (I 118) a z k = true → Rj γ mX12_wordAt 0 0 0 Post (85, [some (.ref 100), some (.int (nI a)), some (.int (nI z)), some (.int (nI w)), none, none], [], (SS b c), I, J, 0, 0)) (K2 : wdB (I 118) a z k = false → Rj γ mX12_wordAt 0 0 0 Post (87, [some (.ref 100), some (.int (nI a)), some (.int (nI z)), some (.int (nI w)), some (.int (nI k)), none], [], (SS b c), I, J, 0, 0)) : ∀ (m i : Nat), a + i + m = z → k + 1 + i ≤ e → (∀ j, j < i → WD (k + 1 + j) = I 118 (a + j)) → Rj γ mX12_wordAt 0 0 0 Post (19, [some (.ref 100), some (.int (nI a)), some (.int (nI z)), some (.int (nI w)), some (.int (nI k)), some (.int (nI i))], [], (SS b c), I, J, 0, 0) := by
  intro m
  induction m with
  | zero =>
    intro i hm hi hA
    have ea : nI a + nI i = nI (a + i) := nI_ad a i
    have ek : nI k + 1 + nI i = nI (k + 1 + i) := by rw [← nI_succ, nI_ad]
    have ca : (nI (a + i)).toNatClampNeg = a + i := nI_clamp (by omega)
    have ck : (nI (k + 1 + i)).toNatClampNeg = k + 1 + i := nI_clamp (by omega)
    have eW : I 119 (k + 1 + i) = WD (k + 1 + i) := hW _ (by omega)
    refine r_run okX12_wordAt 4 (cs := []) (σ' := (24, [some (.ref 100), some (.int (nI a)), some (.int (nI z)), some (.int (nI w)), some (.int (nI k)), some (.int (nI i))], [.int (nI z), .int ((nI a) + (nI i))], (SS b c), I, J, 0, 0)) rfl trivial ?_
    simp only [ea]
    show Rj _ _ _ _ _ _ (24, [some (.ref 100), some (.int (nI a)), some (.int (nI z)), some (.int (nI w)), some (.int (nI k)), some (.int (nI i))], [.int (nI z), .int (nI (a + i))], (SS b c), I, J, 0, 0)
    refine r_icmp okX12_wordAt rfl (fun (h24 : (nI z) ≤ (nI (a + i))) => ?_) (fun (h24 : ¬ (nI z) ≤ (nI (a + i))) => ?_)
    · refine r_run okX12_wordAt 4 (cs := []) (σ' := (65, [some (.ref 100), some (.int (nI a)), some (.int (nI z)), some (.int (nI w)), some (.int (nI k)), some (.int (nI i))], [.int (nI z), .int ((nI a) + (nI i))], (SS b c), I, J, 0, 0)) rfl trivial ?_
      simp only [ea]
      show Rj _ _ _ _ _ _ (65, [some (.ref 100), some (.int (nI a)), some (.int (nI z)), some (.int (nI w)), some (.int (nI k)), some (.int (nI i))], [.int (nI z), .int (nI (a + i))], (SS b c), I, J, 0, 0)
      refine r_icmp okX12_wordAt rfl (fun (h65 : ¬ (nI (a + i)) = (nI z)) => ?_) (fun h650 => ?_)
      · exact absurd (congrArg nI (show a + i = z by omega)) h65
      · have h65 : (nI (a + i)) = (nI z) := Classical.not_not.mp h650
        refine r_run okX12_wordAt 9 (cs := [vp_in (((nI k) + 1) + (nI i)) 84]) (σ' := (82, [some (.ref 100), some (.int (nI a)), some (.int (nI z)), some (.int (nI w)), some (.int (nI k)), some (.int (nI i))], [.int 32, .int (I 119 ((((nI k) + 1) + (nI i)).toNatClampNeg))], (SS b c), I, J, 0, 0)) rfl ⟨(by rw [ek]; exact vin (by omega) (by decide)), trivial⟩ ?_
        simp only [ek, ck, eW]
        show Rj _ _ _ _ _ _ (82, [some (.ref 100), some (.int (nI a)), some (.int (nI z)), some (.int (nI w)), some (.int (nI k)), some (.int (nI i))], [.int 32, .int (WD (k + 1 + i))], (SS b c), I, J, 0, 0)
        refine r_icmp okX12_wordAt rfl (fun (h82 : ¬ (WD (k + 1 + i)) = (32 : Int32)) => ?_) (fun h820 => ?_)
        · refine r_weak (L' := [some (.ref 100), some (.int (nI a)), some (.int (nI z)), some (.int (nI w)), some (.int (nI k)), none]) ⟨rfl, rfl, rfl, rfl, rfl, trivial⟩ (K2 (wdB_f2 (by rw [show z - a = i by omega]; exact h82)))
        · have h82 : (WD (k + 1 + i)) = (32 : Int32) := Classical.not_not.mp h820
          refine r_weak (L' := [some (.ref 100), some (.int (nI a)), some (.int (nI z)), some (.int (nI w)), none, none]) ⟨rfl, rfl, rfl, rfl, trivial⟩ (K1 (wdB_t (fun j hj => hA j (by omega)) (by rw [show z - a = i by omega]; exact h82)))
    · exact absurd (nI_le (by omega) (by omega)) h24
  | succ m ih =>
    intro i hm hi hA
    have ea : nI a + nI i = nI (a + i) := nI_ad a i
    have ek : nI k + 1 + nI i = nI (k + 1 + i) := by rw [← nI_succ, nI_ad]
    have ca : (nI (a + i)).toNatClampNeg = a + i := nI_clamp (by omega)
    have ck : (nI (k + 1 + i)).toNatClampNeg = k + 1 + i := nI_clamp (by omega)
    have eW : I 119 (k + 1 + i) = WD (k + 1 + i) := hW _ (by omega)
    refine r_run okX12_wordAt 4 (cs := []) (σ' := (24, [some (.ref 100), some (.int (nI a)), some (.int (nI z)), some (.int (nI w)), some (.int (nI k)), some (.int (nI i))], [.int (nI z), .int ((nI a) + (nI i))], (SS b c), I, J, 0, 0)) rfl trivial ?_
    simp only [ea]
    show Rj _ _ _ _ _ _ (24, [some (.ref 100), some (.int (nI a)), some (.int (nI z)), some (.int (nI w)), some (.int (nI k)), some (.int (nI i))], [.int (nI z), .int (nI (a + i))], (SS b c), I, J, 0, 0)
    refine r_icmp okX12_wordAt rfl (fun (h24 : (nI z) ≤ (nI (a + i))) => ?_) (fun (h24 : ¬ (nI z) ≤ (nI (a + i))) => ?_)
    · exact absurd h24 (nI_ge (by omega) (by omega))
    · refine r_run okX12_wordAt 14 (cs := [vp_in (((nI k) + 1) + (nI i)) 84, vp_in ((nI a) + (nI i)) 800]) (σ' := (48, [some (.ref 100), some (.int (nI a)), some (.int (nI z)), some (.int (nI w)), some (.int (nI k)), some (.int (nI i))], [.int (I 118 (((nI a) + (nI i)).toNatClampNeg)), .int (I 119 ((((nI k) + 1) + (nI i)).toNatClampNeg))], (SS b c), I, J, 0, 0)) rfl ⟨(by rw [ek]; exact vin (by omega) (by decide)), (by rw [ea]; exact vin (by omega) (by decide)), trivial⟩ ?_
      simp only [ea, ek, ca, ck, eW]
      show Rj _ _ _ _ _ _ (48, [some (.ref 100), some (.int (nI a)), some (.int (nI z)), some (.int (nI w)), some (.int (nI k)), some (.int (nI i))], [.int (I 118 (a + i)), .int (WD (k + 1 + i))], (SS b c), I, J, 0, 0)
      refine r_icmp okX12_wordAt rfl (fun (h48 : ¬ (WD (k + 1 + i)) = (I 118 (a + i))) => ?_) (fun h480 => ?_)
      · refine r_run okX12_wordAt 4 (cs := []) (σ' := (65, [some (.ref 100), some (.int (nI a)), some (.int (nI z)), some (.int (nI w)), some (.int (nI k)), some (.int (nI i))], [.int (nI z), .int ((nI a) + (nI i))], (SS b c), I, J, 0, 0)) rfl trivial ?_
        simp only [ea]
        show Rj _ _ _ _ _ _ (65, [some (.ref 100), some (.int (nI a)), some (.int (nI z)), some (.int (nI w)), some (.int (nI k)), some (.int (nI i))], [.int (nI z), .int (nI (a + i))], (SS b c), I, J, 0, 0)
        refine r_icmp okX12_wordAt rfl (fun (h65 : ¬ (nI (a + i)) = (nI z)) => ?_) (fun h650 => ?_)
        · refine r_weak (L' := [some (.ref 100), some (.int (nI a)), some (.int (nI z)), some (.int (nI w)), some (.int (nI k)), none]) ⟨rfl, rfl, rfl, rfl, rfl, trivial⟩ (K2 (wdB_f1 (i := i) (by omega) h48))
        · have h65 : (nI (a + i)) = (nI z) := Classical.not_not.mp h650
          exact absurd (nI_inj (by omega) (by omega) h65) (by omega)
      · have h48 : (WD (k + 1 + i)) = (I 118 (a + i)) := Classical.not_not.mp h480
        refine r_run okX12_wordAt 5 (cs := []) (σ' := (19, [some (.ref 100), some (.int (nI a)), some (.int (nI z)), some (.int (nI w)), some (.int (nI k)), some (.int ((nI i) + 1))], [], (SS b c), I, J, 0, 0)) rfl trivial ?_
        rw [← nI_succ]
        refine ih (i + 1) (by omega) ?_ (fun j hj => ?_)
        · refine Nat.lt_of_le_of_ne hi (fun q => le_n32 (hle (a + i) (by omega) (by omega)) ?_)
          rw [← h48, show k + 1 + i = e from q, hek]
        · by_cases q : j = i
          · rw [q]; exact h48
          · exact hA j (by omega)
theorem lp_wd2 (γ : GE) {b c : Bool} {I : AI} {J : AJ} {Post : PT} (a z w e : Nat) (hW : MWds I) (he : e ≤ 83) (hek : WD e = 32) (K : Rj γ mX12_wordAt 0 0 0 Post (5, [some (.ref 100), some (.int (nI a)), some (.int (nI z)), some (.int (nI w)), some (.int (nI e)), none], [], (SS b c), I, J, 0, 0)) : ∀ (m k : Nat), k + m = e → (∀ j, k ≤ j → j < e → ¬ WD j = 32) → Rj γ mX12_wordAt 0 0 0 Post (93, [some (.ref 100), some (.int (nI a)), some (.int (nI z)), some (.int (nI w)), some (.int (nI k)), none], [], (SS b c), I, J, 0, 0) := by
  intro m
  induction m with
  | zero =>
    intro k hm hA
    have ck : (nI k).toNatClampNeg = k := nI_clamp (by omega)
    have eW : I 119 k = WD k := hW _ (by omega)
    refine r_run okX12_wordAt 5 (cs := [vp_in (nI k) 84]) (σ' := (102, [some (.ref 100), some (.int (nI a)), some (.int (nI z)), some (.int (nI w)), some (.int (nI k)), none], [.int 32, .int (I 119 ((nI k).toNatClampNeg))], (SS b c), I, J, 0, 0)) rfl ⟨(vin (by omega) (by decide)), trivial⟩ ?_
    simp only [ck, eW]
    show Rj _ _ _ _ _ _ (102, [some (.ref 100), some (.int (nI a)), some (.int (nI z)), some (.int (nI w)), some (.int (nI k)), none], [.int 32, .int (WD k)], (SS b c), I, J, 0, 0)
    refine r_icmp okX12_wordAt rfl (fun (h102 : (WD k) = (32 : Int32)) => ?_) (fun (h102 : ¬ (WD k) = (32 : Int32)) => ?_)
    · refine r_run okX12_wordAt 1 (cs := []) (σ' := (5, [some (.ref 100), some (.int (nI a)), some (.int (nI z)), some (.int (nI w)), some (.int (nI k)), none], [], (SS b c), I, J, 0, 0)) rfl trivial ?_
      have q : k = e := by omega
      subst q
      exact K
    · exact absurd (by rw [show k = e by omega]; exact hek) h102
  | succ m ih =>
    intro k hm hA
    have ck : (nI k).toNatClampNeg = k := nI_clamp (by omega)
    have eW : I 119 k = WD k := hW _ (by omega)
    refine r_run okX12_wordAt 5 (cs := [vp_in (nI k) 84]) (σ' := (102, [some (.ref 100), some (.int (nI a)), some (.int (nI z)), some (.int (nI w)), some (.int (nI k)), none], [.int 32, .int (I 119 ((nI k).toNatClampNeg))], (SS b c), I, J, 0, 0)) rfl ⟨(vin (by omega) (by decide)), trivial⟩ ?_
    simp only [ck, eW]
    show Rj _ _ _ _ _ _ (102, [some (.ref 100), some (.int (nI a)), some (.int (nI z)), some (.int (nI w)), some (.int (nI k)), none], [.int 32, .int (WD k)], (SS b c), I, J, 0, 0)
    refine r_icmp okX12_wordAt rfl (fun (h102 : (WD k) = (32 : Int32)) => ?_) (fun (h102 : ¬ (WD k) = (32 : Int32)) => ?_)
    · exact absurd h102 (hA k (by omega) (by omega))
    · refine r_run okX12_wordAt 5 (cs := []) (σ' := (93, [some (.ref 100), some (.int (nI a)), some (.int (nI z)), some (.int (nI w)), some (.int ((nI k) + 1)), none], [], (SS b c), I, J, 0, 0)) rfl trivial ?_
      rw [← nI_succ]
      exact ih (k + 1) (by omega) (fun j h1 h2 => hA j (by omega) h2)
theorem sp_nx : ∀ (i : Nat), i < 16 → ∃ k, spL[i]? = some k ∧ (∃ e, e < 84 ∧ k < e ∧ WD e = 32 ∧ (∀ j, j < e → k < j → ¬ WD j = 32) ∧ ((i < 15 ∧ spL[i + 1]? = some e) ∨ (i = 15 ∧ e = 83))) := by decide +kernel
def spA (w : Nat) : Nat := if w < 16 then spL.getD w 0 else 83
theorem spA_nx (i : Nat) (hi : i < 16) : spA i < spA (i + 1) ∧ spA (i + 1) ≤ 83 ∧ WD (spA (i + 1)) = 32 ∧ ∀ j, spA i < j → j < spA (i + 1) → ¬ WD j = 32 := by
  have h : ∀ i, i < 16 → spA i < spA (i + 1) ∧ spA (i + 1) ≤ 83 ∧ WD (spA (i + 1)) = 32 ∧ ∀ j, j < spA (i + 1) → spA i < j → ¬ WD j = 32 := by decide +kernel
  obtain ⟨h1, h2, h3, h4⟩ := h i hi
  exact ⟨h1, h2, h3, fun j q1 q2 => h4 j q2 q1⟩
theorem sp_drop : ∀ w, w < 16 → spL.drop w = spA w :: spL.drop (w + 1) := by decide +kernel
theorem lp_wd (γ : GE) {b c : Bool} {I : AI} {J : AJ} (a z : Nat) (hW : MWds I) (hz : z ≤ 800) (haz : a ≤ z) (hle : ∀ q, a ≤ q → q < z → leB (I 118 q) = true) : ∀ (m w : Nat), w + m = 16 → wdN (I 118) a z = wdF (I 118) a z (spL.drop w) w → Rj γ mX12_wordAt 0 0 0 (rI (wdN (I 118) a z) (SS b c) I J) (5, [some (.ref 100), some (.int (nI a)), some (.int (nI z)), some (.int (nI w - 1)), some (.int (nI (spA w))), none], [], (SS b c), I, J, 0, 0) := by
  intro m
  induction m with
  | zero =>
    intro w hm hd
    have hw : w = 16 := by omega
    refine r_run okX12_wordAt 2 (cs := []) (σ' := (9, [some (.ref 100), some (.int (nI a)), some (.int (nI z)), some (.int (nI w - 1)), some (.int (nI (spA w))), none], [.int 83, .int (nI (spA w))], (SS b c), I, J, 0, 0)) rfl trivial ?_
    refine r_icmp okX12_wordAt rfl (fun (h9 : (83 : Int32) ≤ (nI (spA w))) => ?_) (fun (h9 : ¬ (83 : Int32) ≤ (nI (spA w))) => ?_)
    · refine r_run okX12_wordAt 1 (cs := []) (σ' := (118, [some (.ref 100), some (.int (nI a)), some (.int (nI z)), some (.int (nI w - 1)), some (.int (nI (spA w))), none], [.int (-1)], (SS b c), I, J, 0, 0)) rfl trivial ?_
      refine r_iret okX12_wordAt rfl rfl rfl (Nat.le_refl _) (Nat.le_refl _) ?_
      refine ⟨?_, rfl, rfl, rfl⟩
      rw [hd, hw]; rfl
    · exact absurd (by rw [hw]; decide) h9
  | succ m ih =>
    intro w hm hd
    have ew : nI w - 1 + 1 = nI w := Int32.sub_add_cancel _ _
    refine r_run okX12_wordAt 2 (cs := []) (σ' := (9, [some (.ref 100), some (.int (nI a)), some (.int (nI z)), some (.int (nI w - 1)), some (.int (nI (spA w))), none], [.int 83, .int (nI (spA w))], (SS b c), I, J, 0, 0)) rfl trivial ?_
    refine r_icmp okX12_wordAt rfl (fun (h9 : (83 : Int32) ≤ (nI (spA w))) => ?_) (fun (h9 : ¬ (83 : Int32) ≤ (nI (spA w))) => ?_)
    · exact absurd h9 (nI_ge (b := 83) (by have := spA_nx w (by omega); omega) (by decide))
    · refine r_run okX12_wordAt 6 (cs := []) (σ' := (19, [some (.ref 100), some (.int (nI a)), some (.int (nI z)), some (.int ((nI w - 1) + 1)), some (.int (nI (spA w))), some (.int 0)], [], (SS b c), I, J, 0, 0)) rfl trivial ?_
      simp only [ew]
      show Rj _ _ _ _ _ _ (19, [some (.ref 100), some (.int (nI a)), some (.int (nI z)), some (.int (nI w)), some (.int (nI (spA w))), some (.int 0)], [], (SS b c), I, J, 0, 0)
      have hx := spA_nx w (by omega)
      have h := lp_wd1 γ (b := b) (c := c) (I := I) (J := J) (Post := (rI (wdN (I 118) a z) (SS b c) I J)) a z w hW hz hle (spA w) (spA (w + 1)) hx.1 hx.2.1 hx.2.2.1 haz (fun hb => ?_) (fun hb => ?_) (z - a) 0 (by omega) (by omega) (fun j hj => absurd hj (by omega))
      · rw [nI_0] at h
        exact h
      · refine r_run okX12_wordAt 1 (cs := []) (σ' := (86, [some (.ref 100), some (.int (nI a)), some (.int (nI z)), some (.int (nI w)), none, none], [.int (nI w)], (SS b c), I, J, 0, 0)) rfl trivial ?_
        refine r_iret okX12_wordAt rfl rfl rfl (Nat.le_refl _) (Nat.le_refl _) ?_
        refine ⟨?_, rfl, rfl, rfl⟩
        rw [hd, sp_drop w (by omega), wdF, if_pos hb]
      · refine r_run okX12_wordAt 4 (cs := []) (σ' := (93, [some (.ref 100), some (.int (nI a)), some (.int (nI z)), some (.int (nI w)), some (.int ((nI (spA w)) + 1)), none], [], (SS b c), I, J, 0, 0)) rfl trivial ?_
        rw [← nI_succ]
        have h5 := ih (w + 1) (by omega) (by rw [hd, sp_drop w (by omega), wdF, if_neg (by rw [hb]; decide)])
        rw [nI_pred] at h5
        exact lp_wd2 γ a z w (spA (w + 1)) hW hx.2.1 hx.2.2.1 h5 (spA (w + 1) - (spA w + 1)) (spA w + 1) (by omega) (fun j h1 h2 => hx.2.2.2 j (by omega) h2)
theorem c_wordAt0 (γ : GE) {b c : Bool} {I : AI} {J : AJ} (a z : Nat) (hW : MWds I) (hz : z ≤ 800) (haz : a ≤ z) (hle : ∀ q, a ≤ q → q < z → leB (I 118 q) = true) : Ct γ mX12_wordAt 0 0 0 [.ref 100, .int (nI a), .int (nI z)] (SS b c) I J (rI (wdN (I 118) a z) (SS b c) I J) := by
  refine ct_of okX12_wordAt (L := [some (.ref 100), some (.int (nI a)), some (.int (nI z)), none, none, none]) (Nat.le_of_ble_eq_true rfl) rfl ?_
  refine r_run okX12_wordAt 4 (cs := []) (σ' := (5, [some (.ref 100), some (.int (nI a)), some (.int (nI z)), some (.int (-1)), some (.int 0), none], [], (SS b c), I, J, 0, 0)) rfl trivial ?_
  have h := lp_wd γ (b := b) (c := c) (I := I) (J := J) a z hW hz haz hle 16 0 (by omega) rfl
  exact h
