/-! ===== Lookouts ===== -/
def vwF (I : AI) (p x : Nat) : Bool := decide (farN x (nv (I 141 p)) ≤ nv (I 142 p))
def OPos (I : AI) (J : AJ) : Prop := I 65 3 = allP I 8 ∧ ∀ p, p < 8 → ¬ I 140 p = 0 → cs J (68 + p) (vwF I p)
def tN (I : AI) : Nat → Nat
  | 0 => 0
  | n + 1 => if I 140 n = 0 then tN I n else tN I n ||| 2 ^ n
theorem allP_t {I : AI} : ∀ n, n ≤ 8 → allP I n = nI (tN I n) ∧ tN I n < 256
  | 0, _ => ⟨rfl, by show 0 < 256; decide⟩
  | n + 1, h => by
    obtain ⟨e, hl⟩ := allP_t (I := I) n (by omega)
    have t := tb_and _ hl n (by omega)
    unfold allP tN
    by_cases q : I 140 n = 0
    · rw [if_pos q, if_pos q]; exact ⟨e, hl⟩
    · rw [if_neg q, if_neg q, e]; exact ⟨t.2.1, t.2.2⟩
theorem tN_tb {I : AI} {p : Nat} : ∀ n, (tN I n).testBit p = true → p < n ∧ ¬ I 140 p = 0
  | 0, h => by unfold tN at h; simp at h
  | n + 1, h => by
    unfold tN at h
    split at h
    · have := tN_tb n h; exact ⟨by omega, this.2⟩
    · rename_i q
      rw [Nat.testBit_or, Bool.or_eq_true] at h
      rcases h with h | h
      · have := tN_tb n h; exact ⟨by omega, this.2⟩
      · rw [Nat.testBit_two_pow, decide_eq_true_eq] at h
        subst h; exact ⟨by omega, q⟩
theorem sub_told {I : AI} {s : Nat} (hs : s < 256) (h : nI s &&& (allP I 8 ^^^ -1) = 0) {p : Nat} (hp : p < 8) (ho : onB (nI s) p = true) : ¬ I 140 p = 0 := by
  obtain ⟨e, hl⟩ := allP_t (I := I) 8 (Nat.le_refl _)
  rw [e, and_not, or_nI] at h
  have hlt : s ||| tN I 8 < 2 ^ 8 := Nat.or_lt_two_pow (by omega) (by omega)
  have h := nI_inj (by omega) (by omega) h
  have ht : (tN I 8).testBit p = true := by
    rw [← h, Nat.testBit_or, show s.testBit p = true from (on_tb s hs p hp).symm.trans ho, Bool.true_or]
  exact (tN_tb 8 ht).2
theorem smB_gn {I : AI} {s : Nat} {g : Nat → Bool} (h : ∀ x, x < 96 → g x = gnB I s x) : ∀ n, n ≤ 96 → smB (I 102) g n = gnV I s n
  | 0, _ => rfl
  | n + 1, hn => by unfold smB gnV; rw [h n (by omega), smB_gn h n (by omega)]
theorem gnV_M {I : AI} (hM : MLand I) {s : Nat} : ∀ n, n ≤ 96 → gnV I s n = nI (pM I (gnB I s) n)
  | 0, _ => rfl
  | n + 1, h => by
    have hp := (rg_nv (hM n (by omega)).2.1 (by decide)).2
    unfold gnV pM
    rw [gnV_M hM n (by omega)]
    split
    · conv => lhs; rw [hp]
      rw [nI_add]
    · rfl
theorem o_lplace (γ : GE) {b c : Bool} {I : AI} {J : AJ} {p x e : Nat} (hp : p < 8) (hx : x < 96) (he : e < 6) : Ct γ mX3_place 2 0 0 [.ref 65, .int (nI p), .int (nI x), .int (nI e)] (SS b c) I J (fun rt S' I' J' => none = rt ∧ (SS b c) = S' ∧ upI I 65 3 (I 65 3 ||| ((1 : Int32) <<< (nI p &&& 31))) = I' ∧ kJ [68 + p] J J' ∧ cs J' (68 + p) (fun y => decide (farN y x ≤ e))) := by
  refine ct_of okX3_place (L := [some (.ref 65), some (.int (nI p)), some (.int (nI x)), some (.int (nI e))]) (Nat.le_of_ble_eq_true rfl) rfl ?_
  refine r_run okX3_place 3 (cs := []) (σ' := (5, [some (.ref 65), some (.int (nI p)), some (.int (nI x)), some (.int (nI e))], [.int (nI p), .ref 66], (SS b c), I, J, 0, 0)) rfl trivial ?_
  refine r_aald okX3_place rfl rfl (vin hp (by decide)) (by first | exact Or.inl rfl | exact Or.inr rfl) (L66 p hp) ?_
  show Rj _ _ _ _ _ _ (6, [some (.ref 65), some (.int (nI p)), some (.int (nI x)), some (.int (nI e))], [.ref (68 + p)], (SS b c), I, J, 0, 0)
  refine r_run okX3_place 2 (cs := []) (σ' := (8, [some (.ref 65), some (.int (nI p)), some (.int (nI x)), some (.int (nI e))], [.int (nI e), .int (nI x), .ref (68 + p)], (SS b c), I, J, 0, 0)) rfl trivial ?_
  refine r_callV okX3_place okX0_circle [.int (nI x), .int (nI e)] [] (68 + p) rfl rfl rfl kkX0_circle rfl rfl (by decide) (SSv hp) rfl rfl (by decide) ⟨Nat.le_refl _, Nat.le_refl _⟩ (Nat.le_of_ble_eq_true rfl) (a_circle γ (SSv hp) (x := x) (r := e) hx (by omega) rfl rfl) (fun v1 S1 I1 J1 hp => ?_)
  obtain ⟨rfl, rfl, rfl, J1, rfl, k1, c1⟩ := hp
  show Rj _ _ _ _ _ _ (11, [some (.ref 65), some (.int (nI p)), some (.int (nI x)), some (.int (nI e))], [], (SS b c), I, J1, 0, 0)
  refine r_run okX3_place 8 (cs := []) (σ' := (23, [some (.ref 65), some (.int (nI p)), some (.int (nI x)), some (.int (nI e))], [], (SS b c), (upI I 65 3 ((I 65 3) ||| ((1 : Int32) <<< ((nI p) &&& 31)))), J1, 0, 0)) rfl trivial ?_
  refine r_vret okX3_place rfl rfl (Nat.le_refl _) (Nat.le_refl _) ?_
  exact ⟨rfl, rfl, rfl, k1, c1⟩
theorem o_lsize (γ : GE) {b c : Bool} {I : AI} {J : AJ} : Ct γ mX3_size 1 0 0 [.ref 65] (SS b c) I J (rI (bc32 (I 65 3)) (SS b c) I J) := by
  refine ct_of okX3_size (L := [some (.ref 65)]) (Nat.le_of_ble_eq_true rfl) rfl ?_
  refine r_run okX3_size 2 (cs := []) (σ' := (4, [some (.ref 65)], [.int (I 65 3)], (SS b c), I, J, 0, 0)) rfl trivial ?_
  refine r_callS okX3_size okJ6_bitCount_0f7a4 [.int (I 65 3)] [] rfl rfl rfl kkJ6_bitCount_0f7a4 rfl rfl (by decide) (by decide) ⟨Nat.le_refl _, Nat.le_refl _⟩ (Nat.le_of_ble_eq_true rfl) (c_bc32 γ (I 65 3)) (fun v1 S1 I1 J1 hp => ?_)
  obtain ⟨rfl, rfl, rfl, rfl⟩ := hp
  show Rj _ _ _ _ _ _ (7, [some (.ref 65)], [.int (bc32 (I 65 3))], (SS b c), I, J, 0, 0)
  refine r_iret okX3_size rfl rfl rfl (Nat.le_refl _) (Nat.le_refl _) ?_
  exact ⟨rfl, rfl, rfl, rfl⟩
theorem o_bestSet (γ : GE) {b c : Bool} {I : AI} {J : AJ} : Ct γ mX3_bestSet 0 0 0 [.ref 65] (SS b c) I J (rI (I 65 4) (SS b c) I J) := by
  refine ct_of okX3_bestSet (L := [some (.ref 65)]) (Nat.le_of_ble_eq_true rfl) rfl ?_
  refine r_run okX3_bestSet 2 (cs := []) (σ' := (4, [some (.ref 65)], [.int (I 65 4)], (SS b c), I, J, 0, 0)) rfl trivial ?_
  refine r_iret okX3_bestSet rfl rfl rfl (Nat.le_refl _) (Nat.le_refl _) ?_
  exact ⟨rfl, rfl, rfl, rfl⟩
theorem o_bestPeople (γ : GE) {b c : Bool} {I : AI} {J : AJ} : Ct γ mX3_bestPeople 0 0 0 [.ref 65] (SS b c) I J (rI (I 65 5) (SS b c) I J) := by
  refine ct_of okX3_bestPeople (L := [some (.ref 65)]) (Nat.le_of_ble_eq_true rfl) rfl ?_
  refine r_run okX3_bestPeople 2 (cs := []) (σ' := (4, [some (.ref 65)], [.int (I 65 5)], (SS b c), I, J, 0, 0)) rfl trivial ?_
  refine r_iret okX3_bestPeople rfl rfl rfl (Nat.le_refl _) (Nat.le_refl _) ?_
  exact ⟨rfl, rfl, rfl, rfl⟩
theorem o_bestCells (γ : GE) {b c : Bool} {I : AI} {J : AJ} : Ct γ mX3_bestCells 0 0 0 [.ref 65] (SS b c) I J (rI (I 65 6) (SS b c) I J) := by
  refine ct_of okX3_bestCells (L := [some (.ref 65)]) (Nat.le_of_ble_eq_true rfl) rfl ?_
  refine r_run okX3_bestCells 2 (cs := []) (σ' := (4, [some (.ref 65)], [.int (I 65 6)], (SS b c), I, J, 0, 0)) rfl trivial ?_
  refine r_iret okX3_bestCells rfl rfl rfl (Nat.le_refl _) (Nat.le_refl _) ?_
  exact ⟨rfl, rfl, rfl, rfl⟩
theorem lp_gain3 (γ : GE) {b c : Bool} {I : AI} {J : AJ} {s : Nat} (hO : OPos I J) (hsT : ∀ p, p < 8 → onB (nI s) p = true → ¬ I 140 p = 0) {h : Nat → Bool} (hh : cs J 78 h) : ∀ (j q : Nat) (J0 : AJ), q + j = 8 → kJ [67] J J0 → cs J0 67 (fun x => watN I (nI s) x q) → Rj γ mX3_gain 2 0 0 (rS (SS b c) I J 67 (fun x => watN I (nI s) x 8 && h x)) (9, [some (.ref 65), some (.int (nI s)), some (.ref 78), some (.int (nI q))], [], (SS b c), I, J0, 0, 0) := by
  intro j
  induction j with
  | zero =>
    intro q J0 hj hk hc
    refine r_run okX3_gain 2 (cs := []) (σ' := (12, [some (.ref 65), some (.int (nI s)), some (.ref 78), some (.int (nI q))], [.int 8, .int (nI q)], (SS b c), I, J0, 0, 0)) rfl trivial ?_
    refine r_icmp okX3_gain rfl (fun (h12 : (8 : Int32) ≤ (nI q)) => ?_) (fun (h12 : ¬ (8 : Int32) ≤ (nI q)) => ?_)
    · refine r_run okX3_gain 3 (cs := []) (σ' := (47, [some (.ref 65), some (.int (nI s)), some (.ref 78), some (.int (nI q))], [.ref 78, .ref 67], (SS b c), I, J0, 0, 0)) rfl trivial ?_
      refine r_callV okX3_gain okX0_keep [.ref 78] [] 67 rfl rfl rfl kkX0_keep rfl rfl (by decide) rfl rfl rfl (by decide) ⟨Nat.le_refl _, Nat.le_refl _⟩ (Nat.le_of_ble_eq_true rfl) (a_keep γ rfl hc rfl (by decide) (cs_k (hk 78 (by decide)) hh)) (fun v1 S1 I1 J1 hp => ?_)
      obtain ⟨rfl, rfl, rfl, J1, rfl, k1, c1⟩ := hp
      show Rj _ _ _ _ _ _ (50, [some (.ref 65), some (.int (nI s)), some (.ref 78), some (.int (nI q))], [], (SS b c), I, J1, 0, 0)
      refine r_vret okX3_gain rfl rfl (Nat.le_refl _) (Nat.le_refl _) ?_
      have e : q = 8 := by omega
      subst e
      exact ⟨rfl, rfl, rfl, _, rfl, kJ_t hk k1, c1⟩
    · exact absurd (nI_le (a := 8) (b := q) (by omega) (by omega)) h12
  | succ j ih =>
    intro q J0 hj hk hc
    refine r_run okX3_gain 2 (cs := []) (σ' := (12, [some (.ref 65), some (.int (nI s)), some (.ref 78), some (.int (nI q))], [.int 8, .int (nI q)], (SS b c), I, J0, 0, 0)) rfl trivial ?_
    refine r_icmp okX3_gain rfl (fun (h12 : (8 : Int32) ≤ (nI q)) => ?_) (fun (h12 : ¬ (8 : Int32) ≤ (nI q)) => ?_)
    · exact absurd h12 (nI_ge (a := q) (b := 8) (by omega) (by decide))
    · refine r_run okX3_gain 5 (cs := []) (σ' := (20, [some (.ref 65), some (.int (nI s)), some (.ref 78), some (.int (nI q))], [.int (((nI s) >>> ((nI q) &&& 31)) &&& 1)], (SS b c), I, J0, 0, 0)) rfl trivial ?_
      refine r_ifc okX3_gain rfl (fun (h20 : (((nI s) >>> ((nI q) &&& 31)) &&& 1) = (0 : Int32)) => ?_) (fun (h20 : ¬ (((nI s) >>> ((nI q) &&& 31)) &&& 1) = (0 : Int32)) => ?_)
      · have hon : onB (nI s) q = false := on_0.mp h20
        refine r_run okX3_gain 2 (cs := []) (σ' := (9, [some (.ref 65), some (.int (nI s)), some (.ref 78), some (.int ((nI q) + 1))], [], (SS b c), I, J0, 0, 0)) rfl trivial ?_
        rw [nI_eq1]
        refine ih (q + 1) J0 (by omega) hk (cs_f (fun x hx => ?_) hc)
        unfold watN
        rw [any_s, hon, Bool.false_and, Bool.or_false]
      · have hon : onB (nI s) q = true := on_1.mp h20
        have hv : cs J0 (68 + q) (vwF I q) := cs_k (hk _ (by simp; omega)) (hO.2 q (by omega) (hsT q (by omega) hon))
        refine r_run okX3_gain 5 (cs := []) (σ' := (32, [some (.ref 65), some (.int (nI s)), some (.ref 78), some (.int (nI q))], [.int (nI q), .ref 66, .ref 67], (SS b c), I, J0, 0, 0)) rfl trivial ?_
        refine r_aald okX3_gain rfl rfl (vin (by omega) (by decide)) (by first | exact Or.inl rfl | exact Or.inr rfl) (L66 q (by omega)) ?_
        show Rj _ _ _ _ _ _ (33, [some (.ref 65), some (.int (nI s)), some (.ref 78), some (.int (nI q))], [.ref (68 + q), .ref 67], (SS b c), I, J0, 0, 0)
        refine r_callV okX3_gain okX0_join [.ref (68 + q)] [] 67 rfl rfl rfl kkX0_join rfl rfl (by decide) rfl rfl rfl (by decide) ⟨Nat.le_refl _, Nat.le_refl _⟩ (Nat.le_of_ble_eq_true rfl) (a_join γ rfl hc (SSv (by omega)) (by omega) hv) (fun v1 S1 I1 J1 hp => ?_)
        obtain ⟨rfl, rfl, rfl, J1, rfl, k1, c1⟩ := hp
        show Rj _ _ _ _ _ _ (36, [some (.ref 65), some (.int (nI s)), some (.ref 78), some (.int (nI q))], [], (SS b c), I, J1, 0, 0)
        refine r_run okX3_gain 2 (cs := []) (σ' := (9, [some (.ref 65), some (.int (nI s)), some (.ref 78), some (.int ((nI q) + 1))], [], (SS b c), I, J1, 0, 0)) rfl trivial ?_
        rw [nI_eq1]
        refine ih (q + 1) J1 (by omega) (kJ_t hk k1) (cs_f (fun x hx => ?_) c1)
        unfold watN
        rw [any_s, hon, Bool.true_and]; rfl
theorem o_gain (γ : GE) {b c : Bool} {I : AI} {J : AJ} {s : Nat} (hO : OPos I J) (hsT : ∀ p, p < 8 → onB (nI s) p = true → ¬ I 140 p = 0) {h : Nat → Bool} (hh : cs J 78 h) : Ct γ mX3_gain 2 0 0 [.ref 65, .int (nI s), .ref 78] (SS b c) I J (rS (SS b c) I J 67 (fun x => watN I (nI s) x 8 && h x)) := by
  refine ct_of okX3_gain (L := [some (.ref 65), some (.int (nI s)), some (.ref 78), none]) (Nat.le_of_ble_eq_true rfl) rfl ?_
  refine r_run okX3_gain 2 (cs := []) (σ' := (4, [some (.ref 65), some (.int (nI s)), some (.ref 78), none], [.ref 67], (SS b c), I, J, 0, 0)) rfl trivial ?_
  refine r_callV okX3_gain okX0_clear [] [] 67 rfl rfl rfl kkX0_clear rfl rfl (by decide) rfl rfl rfl (by decide) ⟨Nat.le_refl _, Nat.le_refl _⟩ (Nat.le_of_ble_eq_true rfl) (a_clear γ rfl) (fun v1 S1 I1 J1 hp => ?_)
  obtain ⟨rfl, rfl, rfl, J1, rfl, k1, c1⟩ := hp
  show Rj _ _ _ _ _ _ (7, [some (.ref 65), some (.int (nI s)), some (.ref 78), none], [], (SS b c), I, J1, 0, 0)
  refine r_run okX3_gain 2 (cs := []) (σ' := (9, [some (.ref 65), some (.int (nI s)), some (.ref 78), some (.int 0)], [], (SS b c), I, J1, 0, 0)) rfl trivial ?_
  exact lp_gain3 γ hO hsT hh 8 0 J1 (by omega) k1 (cs_f (fun x _ => rfl) c1)
def wghI (I : AI) (s : Nat) (v : Int32) (m : Nat) : AI := if I 65 5 < v ∨ (v = I 65 5 ∧ I 65 6 < nI m) then upI (upI (upI I 65 4 (nI s)) 65 5 v) 65 6 (nI m) else I
theorem o_weigh (γ : GE) {b c : Bool} {I : AI} {J : AJ} {s : Nat} (hL : OLd I) {g : Nat → Bool} (hg : cs J 67 g) : Ct γ mX3_weigh 2 0 0 [.ref 65, .int (nI s)] (SS b c) I J (rV (SS b c) (wghI I s (smB (I 102) g 96) (cnt g 96)) J) := by
  refine ct_of okX3_weigh (L := [some (.ref 65), some (.int (nI s)), none, none]) (Nat.le_of_ble_eq_true rfl) rfl ?_
  refine r_run okX3_weigh 4 (cs := []) (σ' := (8, [some (.ref 65), some (.int (nI s)), none, none], [.ref 67, .ref 1], (SS b c), I, J, 0, 0)) rfl trivial ?_
  refine r_callV okX3_weigh okX2_peopleIn [.ref 67] [] 1 rfl rfl rfl kkX2_peopleIn rfl rfl (by decide) rfl rfl rfl (by decide) ⟨Nat.le_refl _, Nat.le_refl _⟩ (Nat.le_of_ble_eq_true rfl) (o_peopleIn γ hL rfl hg) (fun v1 S1 I1 J1 hp => ?_)
  obtain ⟨rfl, rfl, rfl, rfl⟩ := hp
  show Rj _ _ _ _ _ _ (11, [some (.ref 65), some (.int (nI s)), none, none], [.int (smB (I 102) g 96)], (SS b c), I, J, 0, 0)
  refine r_run okX3_weigh 3 (cs := []) (σ' := (16, [some (.ref 65), some (.int (nI s)), some (.int (smB (I 102) g 96)), none], [.ref 67], (SS b c), I, J, 0, 0)) rfl trivial ?_
  refine r_callV okX3_weigh okX0_size [] [] 67 rfl rfl rfl kkX0_size rfl rfl (by decide) rfl rfl rfl (by decide) ⟨Nat.le_refl _, Nat.le_refl _⟩ (Nat.le_of_ble_eq_true rfl) (a_size γ rfl hg) (fun v1 S1 I1 J1 hp => ?_)
  obtain ⟨rfl, rfl, rfl, rfl⟩ := hp
  show Rj _ _ _ _ _ _ (19, [some (.ref 65), some (.int (nI s)), some (.int (smB (I 102) g 96)), none], [.int (nI (cnt g 96))], (SS b c), I, J, 0, 0)
  refine r_run okX3_weigh 4 (cs := []) (σ' := (25, [some (.ref 65), some (.int (nI s)), some (.int (smB (I 102) g 96)), some (.int (nI (cnt g 96)))], [.int (I 65 5), .int (smB (I 102) g 96)], (SS b c), I, J, 0, 0)) rfl trivial ?_
  refine r_icmp okX3_weigh rfl (fun (h25 : (I 65 5) < (smB (I 102) g 96)) => ?_) (fun (h25 : ¬ (I 65 5) < (smB (I 102) g 96)) => ?_)
  · refine r_run okX3_weigh 9 (cs := []) (σ' := (59, [some (.ref 65), some (.int (nI s)), some (.int (smB (I 102) g 96)), some (.int (nI (cnt g 96)))], [], (SS b c), (upI (upI (upI I 65 4 (nI s)) 65 5 (smB (I 102) g 96)) 65 6 (nI (cnt g 96))), J, 0, 0)) rfl trivial ?_
    refine r_vret okX3_weigh rfl rfl (Nat.le_refl _) (Nat.le_refl _) ?_
    exact ⟨rfl, rfl, by unfold wghI; rw [if_pos (Or.inl h25)], rfl⟩
  · refine r_run okX3_weigh 3 (cs := []) (σ' := (33, [some (.ref 65), some (.int (nI s)), some (.int (smB (I 102) g 96)), some (.int (nI (cnt g 96)))], [.int (I 65 5), .int (smB (I 102) g 96)], (SS b c), I, J, 0, 0)) rfl trivial ?_
    refine r_icmp okX3_weigh rfl (fun (h33 : ¬ (smB (I 102) g 96) = (I 65 5)) => ?_) (fun h330 => ?_)
    · refine r_vret okX3_weigh rfl rfl (Nat.le_refl _) (Nat.le_refl _) ?_
      exact ⟨rfl, rfl, by unfold wghI; rw [if_neg (fun z => z.elim h25 (fun q => h33 q.1))], rfl⟩
    · have h33 : (smB (I 102) g 96) = (I 65 5) := Classical.not_not.mp h330
      refine r_run okX3_weigh 3 (cs := []) (σ' := (41, [some (.ref 65), some (.int (nI s)), some (.int (smB (I 102) g 96)), some (.int (nI (cnt g 96)))], [.int (I 65 6), .int (nI (cnt g 96))], (SS b c), I, J, 0, 0)) rfl trivial ?_
      refine r_icmp okX3_weigh rfl (fun (h41 : (nI (cnt g 96)) ≤ (I 65 6)) => ?_) (fun (h41 : ¬ (nI (cnt g 96)) ≤ (I 65 6)) => ?_)
      · refine r_vret okX3_weigh rfl rfl (Nat.le_refl _) (Nat.le_refl _) ?_
        exact ⟨rfl, rfl, by unfold wghI; rw [if_neg (fun z => z.elim h25 (fun q => absurd q.2 (Int32.not_lt.mpr h41)))], rfl⟩
      · refine r_run okX3_weigh 9 (cs := []) (σ' := (59, [some (.ref 65), some (.int (nI s)), some (.int (smB (I 102) g 96)), some (.int (nI (cnt g 96)))], [], (SS b c), (upI (upI (upI I 65 4 (nI s)) 65 5 (smB (I 102) g 96)) 65 6 (nI (cnt g 96))), J, 0, 0)) rfl trivial ?_
        refine r_vret okX3_weigh rfl rfl (Nat.le_refl _) (Nat.le_refl _) ?_
        exact ⟨rfl, rfl, by unfold wghI; rw [if_pos (Or.inr ⟨h33, Int32.not_le.mp h41⟩)], rfl⟩
def PsR (r : Option Nat × Int32 × Nat) (I0 : AI) : Prop := match r.1 with
  | none => I0 65 5 = -1
  | some d => I0 65 4 = nI d ∧ I0 65 5 = r.2.1 ∧ I0 65 6 = nI r.2.2 ∧ r.2.2 ≤ 96
theorem PsR_w {I I0 : AI} (hM : MLand I) {s m : Nat} {best : Option Nat} {v : Int32} (h : PsR (best, v, m) I0) : PsR (if best.isSome && (decide (gnV I s 96 < v) || (decide (gnV I s 96 = v) && decide (cnt (gnB I s) 96 ≤ m))) then (best, v, m) else (some s, gnV I s 96, cnt (gnB I s) 96)) (wghI I0 s (gnV I s 96) (cnt (gnB I s) 96)) := by
  have hc : cnt (gnB I s) 96 ≤ 96 := cnt_le 96
  have hw : PsR (some s, gnV I s 96, cnt (gnB I s) 96) (upI (upI (upI I0 65 4 (nI s)) 65 5 (gnV I s 96)) 65 6 (nI (cnt (gnB I s) 96))) := ⟨rfl, rfl, rfl, hc⟩
  cases best with
  | none =>
    have h : I0 65 5 = -1 := h
    rw [if_neg (by simp)]
    unfold wghI
    have hb := pM_le (p := gnB I s) hM 96 (Nat.le_refl _)
    rw [h, if_pos (Or.inl (by rw [gnV_M hM 96 (Nat.le_refl _)]; exact Int32.lt_of_lt_of_le (by decide) (nI_pos' (by omega))))]
    exact hw
  | some d =>
    obtain ⟨h1, h2, h3, h4⟩ := h
    have h2 : I0 65 5 = v := h2
    have h3 : I0 65 6 = nI m := h3
    have h4 : m ≤ 96 := h4
    unfold wghI
    rw [h2, h3]
    by_cases q : (decide (gnV I s 96 < v) || (decide (gnV I s 96 = v) && decide (cnt (gnB I s) 96 ≤ m))) = true
    · rw [if_pos (by rw [q]; rfl)]
      simp only [Bool.or_eq_true, Bool.and_eq_true, decide_eq_true_eq] at q
      rw [if_neg]
      · exact ⟨h1, h2, h3, h4⟩
      · rintro (z | ⟨z1, z2⟩)
        · rcases q with q | q
          · exact absurd (Int32.lt_trans z q) Int32.lt_irrefl
          · rw [q.1] at z; exact absurd z Int32.lt_irrefl
        · rcases q with q | q
          · rw [z1] at q; exact absurd q Int32.lt_irrefl
          · exact absurd z2 (nI_nlt q.2 (by omega))
    · rw [if_neg (by rw [Bool.eq_false_iff.mpr q]; simp), if_pos]
      · exact hw
      · simp only [Bool.or_eq_true, Bool.and_eq_true, decide_eq_true_eq, not_or, not_and] at q
        by_cases e : gnV I s 96 = v
        · exact Or.inr ⟨e, nI_lt (Nat.lt_of_not_le (q.2 e)) (by omega)⟩
        · exact Or.inl (Int32.lt_of_le_of_ne (Int32.not_lt.mp q.1) (fun z => e z.symm))
theorem psS_s {I : AI} {k : Int32} {j s : Nat} {q : Option Nat} {v : Int32} {m : Nat} (h : pkB I k s = true) : psS I k (j + 1) s q v m = (fun r : Option Nat × Int32 × Nat => psS I k j (s + 1) r.1 r.2.1 r.2.2) (if q.isSome && (decide (gnV I s 96 < v) || (decide (gnV I s 96 = v) && decide (cnt (gnB I s) 96 ≤ m))) then (q, v, m) else (some s, gnV I s 96, cnt (gnB I s) 96)) := by
  conv => lhs; unfold psS
  rw [if_pos h]
  split <;> rfl
theorem psS_n {I : AI} {k : Int32} {j s : Nat} {q : Option Nat} {v : Int32} {m : Nat} (h : pkB I k s = false) : psS I k (j + 1) s q v m = psS I k j (s + 1) q v m := by
  conv => lhs; unfold psS
  rw [if_neg (by rw [h]; decide)]
theorem OPos_65 {I I0 : AI} {J J0 : AJ} (h : kI [65] I I0) (h3 : I0 65 3 = I 65 3) (hJ : kJ [67] J J0) (hO : OPos I J) : OPos I0 J0 := by
  have e0 := h 140 (by decide); have e1 := h 141 (by decide); have e2 := h 142 (by decide)
  have ea : allP I0 8 = allP I 8 := by unfold allP; simp only [allP, e0]
  refine ⟨by rw [h3, ea]; exact hO.1, fun p hp hq => ?_⟩
  have : vwF I0 p = vwF I p := by funext x; unfold vwF; rw [e1, e2]
  rw [this]
  exact cs_k (hJ _ (by simp; omega)) (hO.2 p hp (by rw [← e0]; exact hq))
theorem wat_k {I I0 : AI} (h : kI [65] I I0) (z : Int32) (x n : Nat) : watN I0 z x n = watN I z x n := by
  unfold watN; rw [h 141 (by decide), h 142 (by decide)]
theorem lp_choose (γ : GE) {b c : Bool} {I : AI} {J : AJ} {k : Int32} (hO : OPos I J) (hL : OLd I) (hM : MLand I) {h : Nat → Bool} (hh : cs J 78 h) (hse : ∀ x, x < 96 → h x = decide (seersV I x = 0)) (R : Option Nat × Int32 × Nat) : ∀ (j q : Nat) (best : Option Nat) (v : Int32) (m : Nat) (I0 : AI) (J0 : AJ), q + j = 256 → psS I k j q best v m = R → kI [65] I I0 → I0 65 3 = I 65 3 → PsR (best, v, m) I0 → kJ [67] J J0 → Rj γ mX3_choose 3 0 0 (fun rt S' I' J' => none = rt ∧ (SS b c) = S' ∧ kI [65] I I' ∧ I' 65 3 = I 65 3 ∧ PsR R I' ∧ kJ [67] J J') (7, [some (.ref 65), some (.int k), some (.ref 78), some (.int (nI q))], [], (SS b c), I0, J0, 0, 0) := by
  intro j
  induction j with
  | zero =>
    intro q best v m I0 J0 hj hR hk h3 hP hJ
    refine r_run okX3_choose 2 (cs := []) (σ' := (11, [some (.ref 65), some (.int k), some (.ref 78), some (.int (nI q))], [.int 256, .int (nI q)], (SS b c), I0, J0, 0, 0)) rfl trivial ?_
    refine r_icmp okX3_choose rfl (fun (h11 : (256 : Int32) ≤ (nI q)) => ?_) (fun (h11 : ¬ (256 : Int32) ≤ (nI q)) => ?_)
    · refine r_vret okX3_choose rfl rfl (Nat.le_refl _) (Nat.le_refl _) ?_
      have hR : (best, v, m) = R := hR
      subst hR
      exact ⟨rfl, rfl, hk, h3, hP, hJ⟩
    · exact absurd (nI_le (a := 256) (b := q) (by omega) (by omega)) h11
  | succ j ih =>
    intro q best v m I0 J0 hj hR hk h3 hP hJ
    have e3 := h3.trans hO.1
    have bq := bc32_q q (by omega)
    refine r_run okX3_choose 2 (cs := []) (σ' := (11, [some (.ref 65), some (.int k), some (.ref 78), some (.int (nI q))], [.int 256, .int (nI q)], (SS b c), I0, J0, 0, 0)) rfl trivial ?_
    refine r_icmp okX3_choose rfl (fun (h11 : (256 : Int32) ≤ (nI q)) => ?_) (fun (h11 : ¬ (256 : Int32) ≤ (nI q)) => ?_)
    · exact absurd h11 (nI_ge (a := q) (b := 256) (by omega) (by decide))
    · refine r_run okX3_choose 6 (cs := []) (σ' := (22, [some (.ref 65), some (.int k), some (.ref 78), some (.int (nI q))], [.int ((nI q) &&& ((I0 65 3) ^^^ (-1)))], (SS b c), I0, J0, 0, 0)) rfl trivial ?_
      simp only [e3]
      show Rj _ _ _ _ _ _ (22, [some (.ref 65), some (.int k), some (.ref 78), some (.int (nI q))], [.int ((nI q) &&& ((allP I 8) ^^^ (-1)))], (SS b c), I0, J0, 0, 0)
      refine r_ifc okX3_choose rfl (fun (h22 : ¬ ((nI q) &&& ((allP I 8) ^^^ (-1))) = (0 : Int32)) => ?_) (fun h220 => ?_)
      · refine r_run okX3_choose 2 (cs := []) (σ' := (7, [some (.ref 65), some (.int k), some (.ref 78), some (.int ((nI q) + 1))], [], (SS b c), I0, J0, 0, 0)) rfl trivial ?_
        rw [nI_eq1]
        have hn : pkB I k q = false := by unfold pkB; rw [decide_eq_false h22]; rfl
        rw [psS_n hn] at hR
        exact ih (q + 1) best v m I0 J0 (by omega) hR hk h3 hP hJ
      · have h22 : ((nI q) &&& ((allP I 8) ^^^ (-1))) = (0 : Int32) := Classical.not_not.mp h220
        refine r_run okX3_choose 1 (cs := []) (σ' := (26, [some (.ref 65), some (.int k), some (.ref 78), some (.int (nI q))], [.int (nI q)], (SS b c), I0, J0, 0, 0)) rfl trivial ?_
        refine r_callS okX3_choose okJ6_bitCount_0f7a4 [.int (nI q)] [] rfl rfl rfl kkJ6_bitCount_0f7a4 rfl rfl (by decide) (by decide) ⟨Nat.le_refl _, Nat.le_refl _⟩ (Nat.le_of_ble_eq_true rfl) (c_bc32 γ (nI q)) (fun v1 S1 I1 J1 hp => ?_)
        obtain ⟨rfl, rfl, rfl, rfl⟩ := hp
        show Rj _ _ _ _ _ _ (29, [some (.ref 65), some (.int k), some (.ref 78), some (.int (nI q))], [.int (bc32 (nI q))], (SS b c), I0, J0, 0, 0)
        simp only [bq]
        show Rj _ _ _ _ _ _ (29, [some (.ref 65), some (.int k), some (.ref 78), some (.int (nI q))], [.int (nI (popN q))], (SS b c), I0, J0, 0, 0)
        refine r_run okX3_choose 1 (cs := []) (σ' := (30, [some (.ref 65), some (.int k), some (.ref 78), some (.int (nI q))], [.int k, .int (nI (popN q))], (SS b c), I0, J0, 0, 0)) rfl trivial ?_
        refine r_icmp okX3_choose rfl (fun (h30 : ¬ (nI (popN q)) = k) => ?_) (fun h300 => ?_)
        · refine r_run okX3_choose 2 (cs := []) (σ' := (7, [some (.ref 65), some (.int k), some (.ref 78), some (.int ((nI q) + 1))], [], (SS b c), I0, J0, 0, 0)) rfl trivial ?_
          rw [nI_eq1]
          have hn : pkB I k q = false := by unfold pkB; rw [decide_eq_false h30, Bool.and_false]
          rw [psS_n hn] at hR
          exact ih (q + 1) best v m I0 J0 (by omega) hR hk h3 hP hJ
        · have h30 : (nI (popN q)) = k := Classical.not_not.mp h300
          refine r_run okX3_choose 3 (cs := []) (σ' := (36, [some (.ref 65), some (.int k), some (.ref 78), some (.int (nI q))], [.ref 78, .int (nI q), .ref 65], (SS b c), I0, J0, 0, 0)) rfl trivial ?_
          refine r_callV okX3_choose okX3_gain [.int (nI q), .ref 78] [] 65 rfl rfl rfl kkX3_gain rfl rfl (by decide) rfl rfl rfl (by decide) ⟨Nat.le_refl _, Nat.le_refl _⟩ (Nat.le_of_ble_eq_true rfl) (o_gain γ (s := q) (OPos_65 hk h3 hJ hO) (fun p hp ho => by rw [hk 140 (by decide)]; exact sub_told (by omega) h22 hp ho) (cs_k (hJ 78 (by decide)) hh)) (fun v1 S1 I1 J1 hp => ?_)
          obtain ⟨rfl, rfl, rfl, J2, rfl, k2, c2⟩ := hp
          show Rj _ _ _ _ _ _ (39, [some (.ref 65), some (.int k), some (.ref 78), some (.int (nI q))], [], (SS b c), I0, J2, 0, 0)
          refine r_run okX3_choose 2 (cs := []) (σ' := (41, [some (.ref 65), some (.int k), some (.ref 78), some (.int (nI q))], [.int (nI q), .ref 65], (SS b c), I0, J2, 0, 0)) rfl trivial ?_
          refine r_callV okX3_choose okX3_weigh [.int (nI q)] [] 65 rfl rfl rfl kkX3_weigh rfl rfl (by decide) rfl rfl rfl (by decide) ⟨Nat.le_refl _, Nat.le_refl _⟩ (Nat.le_of_ble_eq_true rfl) (o_weigh γ (s := q) (fun x hx => by rw [hk 2 (by decide), hk 3 (by decide), hk 4 (by decide), hk 101 (by decide), hk 102 (by decide), hk 103 (by decide)]; exact hL x hx) c2) (fun v1 S1 I1 J1 hp => ?_)
          obtain ⟨rfl, rfl, rfl, rfl⟩ := hp
          show Rj _ _ _ _ _ _ (44, [some (.ref 65), some (.int k), some (.ref 78), some (.int (nI q))], [], (SS b c), (wghI I0 q (smB (I0 102) (fun x => watN I0 (nI q) x 8 && h x) 96) (cnt (fun x => watN I0 (nI q) x 8 && h x) 96)), J2, 0, 0)
          refine r_run okX3_choose 2 (cs := []) (σ' := (7, [some (.ref 65), some (.int k), some (.ref 78), some (.int ((nI q) + 1))], [], (SS b c), (wghI I0 q (smB (I0 102) (fun x => watN I0 (nI q) x 8 && h x) 96) (cnt (fun x => watN I0 (nI q) x 8 && h x) 96)), J2, 0, 0)) rfl trivial ?_
          rw [nI_eq1]
          have hy : pkB I k q = true := by unfold pkB; rw [decide_eq_true h22, decide_eq_true h30]; rfl
          rw [psS_s hy] at hR
          have hg : ∀ x, x < 96 → (watN I0 (nI q) x 8 && h x) = gnB I q x := fun x hx => by unfold gnB; rw [wat_k hk, hse x hx]
          have e1 : smB (I0 102) (fun x => watN I0 (nI q) x 8 && h x) 96 = gnV I q 96 := by rw [hk 102 (by decide)]; exact smB_gn hg 96 (Nat.le_refl _)
          have e2 : cnt (fun x => watN I0 (nI q) x 8 && h x) 96 = cnt (gnB I q) 96 := cnt_cg hg
          rw [e1, e2]
          refine ih (q + 1) _ _ _ (wghI I0 q (gnV I q 96) (cnt (gnB I q) 96)) J2 (by omega) hR (kI_t hk ?_) ?_ (PsR_w hM hP) (kJ_t hJ k2)
          · unfold wghI; split
            · exact kI_t (kI_up (by decide)) (kI_t (kI_up (by decide)) (kI_up (by decide)))
            · exact kI_r
          · refine Eq.trans ?_ h3
            unfold wghI; split
            · simp [upI]
            · rfl
theorem o_choose (γ : GE) {b c : Bool} {I : AI} {J : AJ} {k : Int32} (hO : OPos I J) (hL : OLd I) (hM : MLand I) {h : Nat → Bool} (hh : cs J 78 h) (hse : ∀ x, x < 96 → h x = decide (seersV I x = 0)) : Ct γ mX3_choose 3 0 0 [.ref 65, .int k, .ref 78] (SS b c) I J (fun rt S' I' J' => none = rt ∧ (SS b c) = S' ∧ kI [65] I I' ∧ I' 65 3 = I 65 3 ∧ PsR (psS I k 256 0 none 0 0) I' ∧ kJ [67] J J') := by
  refine ct_of okX3_choose (L := [some (.ref 65), some (.int k), some (.ref 78), none]) (Nat.le_of_ble_eq_true rfl) rfl ?_
  refine r_run okX3_choose 5 (cs := []) (σ' := (7, [some (.ref 65), some (.int k), some (.ref 78), some (.int 0)], [], (SS b c), (upI I 65 5 (-1)), J, 0, 0)) rfl trivial ?_
  exact lp_choose γ hO hL hM hh hse _ 256 0 none 0 0 (upI I 65 5 (-1)) J (by omega) rfl (kI_up (by decide)) rfl rfl kJ_r
