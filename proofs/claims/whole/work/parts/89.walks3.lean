/-! ===== Walks: walk, all, within, begin; paths told forward and backward ===== -/
def fwN (m : Int32) (F al : Nat → Bool) : Nat → Nat → Int64
  | 0, y => if F y && al y then 1 else 0
  | k + 1, y => if al y then stN m (fwN m F al k) y else 0
def sumT (f : Nat → Int64) (n : Nat) : Int64 := sumW f (fun _ => true) n
theorem sumT_s {f : Nat → Int64} {n : Nat} : sumT f (n + 1) = sumT f n + f n := rfl
theorem sumW_cg {f g : Nat → Int64} {p q : Nat → Bool} : ∀ {n : Nat}, (∀ i, i < n → p i = q i ∧ f i = g i) → sumW f p n = sumW g q n
  | 0, _ => rfl
  | n + 1, h => by unfold sumW; rw [sumW_cg (fun i hi => h i (by omega)), (h n (by omega)).1, (h n (by omega)).2]
theorem sumT_cg {f g : Nat → Int64} {n : Nat} (h : ∀ i, i < n → f i = g i) : sumT f n = sumT g n := sumW_cg (fun i hi => ⟨rfl, h i hi⟩)
theorem sumW_T {f : Nat → Int64} {p : Nat → Bool} : ∀ {n : Nat}, sumW f p n = sumT (fun i => if p i then f i else 0) n
  | 0 => rfl
  | n + 1 => by
    rw [sumT_s, ← sumW_T (n := n)]
    show (if p n then sumW f p n + f n else sumW f p n) = _
    split
    · rfl
    · rw [Int64.add_zero]
theorem stN_cg {m : Int32} {u v : Nat → Int64} (h : ∀ x, x < 96 → u x = v x) (y : Nat) : stN m u y = stN m v y := sumT_cg fun x hx => by rw [h x hx]
theorem sumT_add {f g : Nat → Int64} : ∀ {n : Nat}, sumT (fun i => f i + g i) n = sumT f n + sumT g n
  | 0 => by show (0 : Int64) = 0 + 0; rfl
  | n + 1 => by rw [sumT_s, sumT_s, sumT_s, sumT_add]; ac_rfl
theorem sumT_0 : ∀ {n : Nat}, sumT (fun _ => 0) n = 0
  | 0 => rfl
  | n + 1 => by rw [sumT_s, sumT_0]; rfl
theorem sumT_sw {f : Nat → Nat → Int64} {m : Nat} : ∀ {n : Nat}, sumT (fun i => sumT (fun j => f i j) m) n = sumT (fun j => sumT (fun i => f i j) n) m
  | 0 => by show (0 : Int64) = _; exact (sumT_0 (n := m)).symm
  | n + 1 => by
    rw [sumT_s, sumT_sw (n := n), ← sumT_add]
    exact sumT_cg fun j _ => sumT_s.symm
theorem sumT_mul {f : Nat → Int64} {c : Int64} : ∀ {n : Nat}, sumT f n * c = sumT (fun i => f i * c) n
  | 0 => by show (0 : Int64) * c = 0; rw [Int64.zero_mul]
  | n + 1 => by rw [sumT_s, sumT_s, Int64.add_mul, sumT_mul]
theorem sumT_one {g : Nat → Int64} {z : Nat} : ∀ {n : Nat}, sumT (fun y => if z = y then g y else 0) n = if z < n then g z else 0
  | 0 => rfl
  | n + 1 => by
    rw [sumT_s, sumT_one (n := n)]
    by_cases h : z = n
    · subst h; rw [if_neg (by omega), if_pos rfl, if_pos (by omega), Int64.zero_add]
    · rw [if_neg h, Int64.add_zero]
      by_cases h2 : z < n
      · rw [if_pos h2, if_pos (by omega)]
      · rw [if_neg h2, if_neg (by omega)]
def wyG (m : Int32) (al : Nat → Bool) : Nat → Nat → Int64
  | 0, x => if al x then 1 else 0
  | k + 1, x => if al x then sumW (fun d => wyG m al k (mvT x d)) (mvS m x) 9 else 0
theorem wyG_0 {m : Int32} {al : Nat → Bool} {x : Nat} (h : al x = false) : ∀ k, wyG m al k x = 0
  | 0 => by unfold wyG; rw [h]; rfl
  | k + 1 => by unfold wyG; rw [h]; rfl
theorem fwN_0 {m : Int32} {F al : Nat → Bool} {x : Nat} (h : al x = false) : ∀ k, fwN m F al k x = 0
  | 0 => by unfold fwN; rw [h, Bool.and_false]; rfl
  | k + 1 => by unfold fwN; rw [h]; rfl
theorem wy_st {m : Int32} {F al : Nat → Bool} (k j : Nat) : sumT (fun y => fwN m F al (k + 1) y * wyG m al j y) 96 = sumT (fun x => fwN m F al k x * wyG m al (j + 1) x) 96 := by
  have e1 : ∀ y, y < 96 → fwN m F al (k + 1) y * wyG m al j y = sumT (fun x => sumT (fun d => if mvS m x d && decide (mvT x d = y) then fwN m F al k x * wyG m al j y else 0) 9) 96 := by
    intro y _
    have e2 : fwN m F al (k + 1) y * wyG m al j y = stN m (fwN m F al k) y * wyG m al j y := by
      cases h : al y with
      | false => rw [wyG_0 h, Int64.mul_zero, Int64.mul_zero]
      | true => rw [fwN, if_pos h]
    rw [e2]
    show sumT _ 96 * _ = _
    rw [sumT_mul]
    refine sumT_cg fun x _ => ?_
    rw [sumW_T, sumT_mul]
    refine sumT_cg fun d _ => ?_
    split
    · rfl
    · rw [Int64.zero_mul]
  rw [sumT_cg e1, sumT_sw]
  refine sumT_cg fun x hx => ?_
  rw [sumT_sw]
  have e3 : ∀ d, d < 9 → sumT (fun y => if mvS m x d && decide (mvT x d = y) then fwN m F al k x * wyG m al j y else 0) 96 = (if mvS m x d then wyG m al j (mvT x d) else 0) * fwN m F al k x := by
    intro d hd
    cases h : mvS m x d with
    | false => simp only [Bool.false_and, Bool.false_eq_true, if_false]; rw [sumT_0, Int64.zero_mul]
    | true =>
      simp only [Bool.true_and, decide_eq_true_eq, if_true]
      rw [sumT_one (g := fun y => fwN m F al k x * wyG m al j y), if_pos, Int64.mul_comm]
      unfold mvS at h
      rw [Bool.and_eq_true] at h
      exact ((mv_dec x hx d hd).2 h.2).2
  rw [sumT_cg e3, ← sumT_mul, ← sumW_T, Int64.mul_comm]
  cases h : al x with
  | false => rw [fwN_0 h, Int64.zero_mul, Int64.zero_mul]
  | true => rw [wyG, if_pos h]
theorem wy_all {m : Int32} {F al : Nat → Bool} (n : Nat) : ∀ j, j ≤ n → sumT (fun y => fwN m F al n y * wyG m al 0 y) 96 = sumT (fun x => fwN m F al (n - j) x * wyG m al j x) 96
  | 0, _ => rfl
  | j + 1, h => by
    rw [wy_all n j (by omega), show n - j = (n - (j + 1)) + 1 by omega, wy_st]
theorem fw_wy {m : Int32} {F al : Nat → Bool} (n : Nat) : sumT (fwN m F al n) 96 = sumW (wyG m al n) F 96 := by
  have h := wy_all (m := m) (F := F) (al := al) n n (Nat.le_refl _)
  rw [Nat.sub_self] at h
  rw [sumW_T]
  rw [sumT_cg (f := fun x => fwN m F al 0 x * wyG m al n x) (g := fun x => if F x then wyG m al n x else 0) (fun x _ => by
    cases ha : al x with
    | false => rw [wyG_0 ha, Int64.mul_zero]; split <;> rfl
    | true =>
      unfold fwN; rw [ha, Bool.and_true]
      split
      · rw [Int64.one_mul]
      · rw [Int64.zero_mul])] at h
  rw [← h]
  refine sumT_cg fun x _ => ?_
  cases ha : al x with
  | false => rw [fwN_0 ha, Int64.zero_mul]
  | true => unfold wyG; rw [ha, if_pos rfl, Int64.mul_one]
theorem wyG_cg {m : Int32} {al al' : Nat → Bool} (h : ∀ x, x < 96 → al x = al' x) : ∀ k x, x < 96 → wyG m al k x = wyG m al' k x
  | 0, x, hx => by unfold wyG; rw [h x hx]
  | k + 1, x, hx => by
    unfold wyG
    rw [h x hx, sumW_T, sumW_T, sumT_cg (fun d hd => ?_)]
    cases q : mvS m x d with
    | false => rfl
    | true =>
      unfold mvS at q
      rw [Bool.and_eq_true] at q
      rw [if_pos rfl, if_pos rfl, wyG_cg h k _ ((mv_dec x hx d hd).2 q.2).2]
theorem wyN_G {I : AI} {z : Int32} : ∀ k x, wyN I z k x = wyG (I 100 6) (in0 I z) k x
  | 0, x => rfl
  | k + 1, x => by
    unfold wyN wyG
    rw [show wyN I z k = wyG (I 100 6) (in0 I z) k from funext (wyN_G k)]
theorem walk_eq {I : AI} {z : Int32} {F al : Nat → Bool} (h : ∀ x, x < 96 → al x = in0 I z x) (n : Nat) : sumT (fwN (I 100 6) F al n) 96 = pthV I z n F := by
  rw [fw_wy]
  unfold pthV
  exact sumW_cg fun x hx => ⟨rfl, by rw [wyN_G, wyG_cg h n x hx]⟩
theorem lp_wkC (γ : GE) {b c : Bool} {I : AI} {J : AJ} {u v : Nat → Int64} : ∀ (j q : Nat), q + j = 96 → Rj γ mX9_walk 2 0 0 (fun rt S' I' J' => some (.long (sumT u 96)) = rt ∧ (SS b c) = S' ∧ I = I' ∧ kJ [49, 50] J J') (71, [some (.ref 42), some (.long (sumT u q)), none, some (.int (nI q))], [], (SS b c), I, (wJ J u v), 0, 0) := by
  intro j
  induction j with
  | zero =>
    intro q  hj
    refine r_run okX9_walk 2 (cs := []) (σ' := (74, [some (.ref 42), some (.long (sumT u q)), none, some (.int (nI q))], [.int 96, .int (nI q)], (SS b c), I, (wJ J u v), 0, 0)) rfl trivial ?_
    refine r_icmp okX9_walk rfl (fun (h74 : (96 : Int32) ≤ (nI q)) => ?_) (fun (h74 : ¬ (96 : Int32) ≤ (nI q)) => ?_)
    · refine r_run okX9_walk 1 (cs := []) (σ' := (93, [some (.ref 42), some (.long (sumT u q)), none, some (.int (nI q))], [.long (sumT u q)], (SS b c), I, (wJ J u v), 0, 0)) rfl trivial ?_
      refine r_lret okX9_walk rfl rfl (Nat.le_refl _) (Nat.le_refl _) ?_
      have e : q = 96 := by omega
      subst e
      exact ⟨rfl, rfl, rfl, wJ_k⟩
    · exact absurd (nI_le (a := 96) (b := q) (by omega) (by omega)) h74
  | succ j ih =>
    intro q  hj
    have cq : (nI q).toNatClampNeg = q := nI_clamp (by omega)
    refine r_run okX9_walk 2 (cs := []) (σ' := (74, [some (.ref 42), some (.long (sumT u q)), none, some (.int (nI q))], [.int 96, .int (nI q)], (SS b c), I, (wJ J u v), 0, 0)) rfl trivial ?_
    refine r_icmp okX9_walk rfl (fun (h74 : (96 : Int32) ≤ (nI q)) => ?_) (fun (h74 : ¬ (96 : Int32) ≤ (nI q)) => ?_)
    · exact absurd h74 (nI_ge (a := q) (b := 96) (by omega) (by decide))
    · refine r_run okX9_walk 9 (cs := [vp_in (nI q) 96]) (σ' := (71, [some (.ref 42), some (.long ((sumT u q) + ((wJ J u v) 49 ((nI q).toNatClampNeg)))), none, some (.int ((nI q) + 1))], [], (SS b c), I, (wJ J u v), 0, 0)) rfl ⟨(vin (by omega) (by decide)), trivial⟩ ?_
      simp only [cq, wJ_9]
      show Rj _ _ _ _ _ _ (71, [some (.ref 42), some (.long ((sumT u q) + (u q))), none, some (.int ((nI q) + 1))], [], (SS b c), I, (wJ J u v), 0, 0)
      rw [nI_eq1, ← sumT_s]
      exact ih (q + 1) (by omega)
theorem lp_wkB (γ : GE) {b c : Bool} {I : AI} {J : AJ} {m : Int32} {F al : Nat → Bool} {n : Nat} (hn : n < 2 ^ 30) (en : I 42 10 = nI n) (hT : TgOK I m) (ha : cs J 44 al) : ∀ (j q : Nat) (u v : Nat → Int64), q + j = n → (∀ y, y < 96 → u y = fwN m F al q y) → Rj γ mX9_walk 2 0 0 (fun rt S' I' J' => some (.long (sumT (fwN m F al n) 96)) = rt ∧ (SS b c) = S' ∧ I = I' ∧ kJ [49, 50] J J') (49, [some (.ref 42), some (.int (nI q)), none, none], [], (SS b c), I, (wJ J u v), 0, 0) := by
  intro j
  induction j with
  | zero =>
    intro q u v hj hu
    refine r_run okX9_walk 3 (cs := []) (σ' := (54, [some (.ref 42), some (.int (nI q)), none, none], [.int (I 42 10), .int (nI q)], (SS b c), I, (wJ J u v), 0, 0)) rfl trivial ?_
    simp only [en]
    show Rj _ _ _ _ _ _ (54, [some (.ref 42), some (.int (nI q)), none, none], [.int (nI n), .int (nI q)], (SS b c), I, (wJ J u v), 0, 0)
    refine r_icmp okX9_walk rfl (fun (h54 : (nI n) ≤ (nI q)) => ?_) (fun (h54 : ¬ (nI n) ≤ (nI q)) => ?_)
    · refine r_run okX9_walk 4 (cs := []) (σ' := (71, [some (.ref 42), some (.long 0), none, some (.int 0)], [], (SS b c), I, (wJ J u v), 0, 0)) rfl trivial ?_
      have e : q = n := by omega
      subst e
      rw [← sumT_cg hu]
      exact lp_wkC γ 96 0 (by omega)
    · exact absurd (nI_le (by omega) (by omega)) h54
  | succ j ih =>
    intro q u v hj hu
    refine r_run okX9_walk 3 (cs := []) (σ' := (54, [some (.ref 42), some (.int (nI q)), none, none], [.int (I 42 10), .int (nI q)], (SS b c), I, (wJ J u v), 0, 0)) rfl trivial ?_
    simp only [en]
    show Rj _ _ _ _ _ _ (54, [some (.ref 42), some (.int (nI q)), none, none], [.int (nI n), .int (nI q)], (SS b c), I, (wJ J u v), 0, 0)
    refine r_icmp okX9_walk rfl (fun (h54 : (nI n) ≤ (nI q)) => ?_) (fun (h54 : ¬ (nI n) ≤ (nI q)) => ?_)
    · exact absurd h54 (nI_ge (by omega) (by omega))
    · refine r_run okX9_walk 1 (cs := []) (σ' := (58, [some (.ref 42), some (.int (nI q)), none, none], [.ref 42], (SS b c), I, (wJ J u v), 0, 0)) rfl trivial ?_
      refine r_callV okX9_walk okX9_takeStep [] [] 42 rfl rfl rfl kkX9_takeStep rfl rfl (by decide) rfl rfl rfl (by decide) ⟨Nat.le_refl _, Nat.le_refl _⟩ (Nat.le_of_ble_eq_true rfl) (o_takeStep0 γ (J := J) (u := u) (v := v) hT ha) (fun v1 S1 I1 J1 hp => ?_)
      obtain ⟨rfl, rfl, rfl, u2, v2, rfl, hu2⟩ := hp
      show Rj _ _ _ _ _ _ (61, [some (.ref 42), some (.int (nI q)), none, none], [], (SS b c), I, (wJ J u2 v2), 0, 0)
      refine r_run okX9_walk 2 (cs := []) (σ' := (49, [some (.ref 42), some (.int ((nI q) + 1)), none, none], [], (SS b c), I, (wJ J u2 v2), 0, 0)) rfl trivial ?_
      rw [nI_eq1]
      refine ih (q + 1) u2 v2 (by omega) (fun y hy => ?_)
      rw [hu2 y hy, fwN, stN_cg hu]
theorem lp_wkA (γ : GE) {b c : Bool} {I : AI} {J : AJ} {m : Int32} {F al : Nat → Bool} {n : Nat} (hn : n < 2 ^ 30) (en : I 42 10 = nI n) (hT : TgOK I m) (ha : cs J 44 al) (hF : cs J 43 F) : ∀ (j q : Nat) (u v : Nat → Int64), q + j = 96 → (∀ y, y < q → u y = fwN m F al 0 y) → Rj γ mX9_walk 2 0 0 (fun rt S' I' J' => some (.long (sumT (fwN m F al n) 96)) = rt ∧ (SS b c) = S' ∧ I = I' ∧ kJ [49, 50] J J') (2, [some (.ref 42), some (.int (nI q)), none, none], [], (SS b c), I, (wJ J u v), 0, 0) := by
  intro j
  induction j with
  | zero =>
    intro q u v hj hu
    refine r_run okX9_walk 2 (cs := []) (σ' := (5, [some (.ref 42), some (.int (nI q)), none, none], [.int 96, .int (nI q)], (SS b c), I, (wJ J u v), 0, 0)) rfl trivial ?_
    refine r_icmp okX9_walk rfl (fun (h5 : (96 : Int32) ≤ (nI q)) => ?_) (fun (h5 : ¬ (96 : Int32) ≤ (nI q)) => ?_)
    · refine r_run okX9_walk 2 (cs := []) (σ' := (49, [some (.ref 42), some (.int 0), none, none], [], (SS b c), I, (wJ J u v), 0, 0)) rfl trivial ?_
      exact lp_wkB γ hn en hT ha n 0 u v (by omega) (fun y hy => hu y (by omega))
    · exact absurd (nI_le (a := 96) (b := q) (by omega) (by omega)) h5
  | succ j ih =>
    intro q u v hj hu
    have cq : (nI q).toNatClampNeg = q := nI_clamp (by omega)
    refine r_run okX9_walk 2 (cs := []) (σ' := (5, [some (.ref 42), some (.int (nI q)), none, none], [.int 96, .int (nI q)], (SS b c), I, (wJ J u v), 0, 0)) rfl trivial ?_
    refine r_icmp okX9_walk rfl (fun (h5 : (96 : Int32) ≤ (nI q)) => ?_) (fun (h5 : ¬ (96 : Int32) ≤ (nI q)) => ?_)
    · exact absurd h5 (nI_ge (a := q) (b := 96) (by omega) (by decide))
    · refine r_run okX9_walk 6 (cs := []) (σ' := (18, [some (.ref 42), some (.int (nI q)), none, none], [.int (nI q), .ref 43, .int (nI q), .ref 49], (SS b c), I, (wJ J u v), 0, 0)) rfl trivial ?_
      refine r_callV okX9_walk okX0_has [.int (nI q)] [.int (nI q), .ref 49] 43 rfl rfl rfl kkX0_has rfl rfl (by decide) rfl rfl rfl (by decide) ⟨Nat.le_refl _, Nat.le_refl _⟩ (Nat.le_of_ble_eq_true rfl) (a_has γ rfl (cs_k (J := J) (J' := wJ J u v) rfl hF) (x := q) (by omega) rfl) (fun v1 S1 I1 J1 hp => ?_)
      obtain ⟨rfl, rfl, rfl, rfl⟩ := hp
      show Rj _ _ _ _ _ _ (21, [some (.ref 42), some (.int (nI q)), none, none], [.int (bi (F q)), .int (nI q), .ref 49], (SS b c), I, (wJ J u v), 0, 0)
      refine r_ifc okX9_walk rfl (fun (h21 : (bi (F q)) = (0 : Int32)) => ?_) (fun (h21 : ¬ (bi (F q)) = (0 : Int32)) => ?_)
      · refine r_run okX9_walk 4 (cs := [vp_in (nI q) 96]) (σ' := (2, [some (.ref 42), some (.int ((nI q) + 1)), none, none], [], (SS b c), I, (upJ (wJ J u v) 49 ((nI q).toNatClampNeg) 0), 0, 0)) rfl ⟨(vin (by omega) (by decide)), trivial⟩ ?_
        simp only [cq]
        show Rj _ _ _ _ _ _ (2, [some (.ref 42), some (.int ((nI q) + 1)), none, none], [], (SS b c), I, (upJ (wJ J u v) 49 q 0), 0, 0)
        rw [wJ_u, nI_eq1]
        refine ih (q + 1) _ v (by omega) (fun y hy => ?_)
        by_cases e : y = q
        · rw [e, pk_uLs, fwN, if_neg (by rw [bi_0.mp h21, Bool.false_and]; decide)]
        · rw [pk_uLn e]; exact hu y (by omega)
      · refine r_run okX9_walk 3 (cs := []) (σ' := (29, [some (.ref 42), some (.int (nI q)), none, none], [.int (nI q), .ref 44, .int (nI q), .ref 49], (SS b c), I, (wJ J u v), 0, 0)) rfl trivial ?_
        refine r_callV okX9_walk okX0_has [.int (nI q)] [.int (nI q), .ref 49] 44 rfl rfl rfl kkX0_has rfl rfl (by decide) rfl rfl rfl (by decide) ⟨Nat.le_refl _, Nat.le_refl _⟩ (Nat.le_of_ble_eq_true rfl) (a_has γ rfl (cs_k (J := J) (J' := wJ J u v) rfl ha) (x := q) (by omega) rfl) (fun v1 S1 I1 J1 hp => ?_)
        obtain ⟨rfl, rfl, rfl, rfl⟩ := hp
        show Rj _ _ _ _ _ _ (32, [some (.ref 42), some (.int (nI q)), none, none], [.int (bi (al q)), .int (nI q), .ref 49], (SS b c), I, (wJ J u v), 0, 0)
        refine r_ifc okX9_walk rfl (fun (h32 : (bi (al q)) = (0 : Int32)) => ?_) (fun (h32 : ¬ (bi (al q)) = (0 : Int32)) => ?_)
        · refine r_run okX9_walk 4 (cs := [vp_in (nI q) 96]) (σ' := (2, [some (.ref 42), some (.int ((nI q) + 1)), none, none], [], (SS b c), I, (upJ (wJ J u v) 49 ((nI q).toNatClampNeg) 0), 0, 0)) rfl ⟨(vin (by omega) (by decide)), trivial⟩ ?_
          simp only [cq]
          show Rj _ _ _ _ _ _ (2, [some (.ref 42), some (.int ((nI q) + 1)), none, none], [], (SS b c), I, (upJ (wJ J u v) 49 q 0), 0, 0)
          rw [wJ_u, nI_eq1]
          refine ih (q + 1) _ v (by omega) (fun y hy => ?_)
          by_cases e : y = q
          · rw [e, pk_uLs, fwN, if_neg (by rw [bi_0.mp h32, Bool.and_false]; decide)]
          · rw [pk_uLn e]; exact hu y (by omega)
        · refine r_run okX9_walk 5 (cs := [vp_in (nI q) 96]) (σ' := (2, [some (.ref 42), some (.int ((nI q) + 1)), none, none], [], (SS b c), I, (upJ (wJ J u v) 49 ((nI q).toNatClampNeg) 1), 0, 0)) rfl ⟨(vin (by omega) (by decide)), trivial⟩ ?_
          simp only [cq]
          show Rj _ _ _ _ _ _ (2, [some (.ref 42), some (.int ((nI q) + 1)), none, none], [], (SS b c), I, (upJ (wJ J u v) 49 q 1), 0, 0)
          rw [wJ_u, nI_eq1]
          refine ih (q + 1) _ v (by omega) (fun y hy => ?_)
          by_cases e : y = q
          · rw [e, pk_uLs, fwN, if_pos (by rw [bi_n0.mp h21, bi_n0.mp h32]; rfl)]
          · rw [pk_uLn e]; exact hu y (by omega)
theorem o_walk (γ : GE) {b c : Bool} {I : AI} {J : AJ} {m : Int32} {F al : Nat → Bool} {n : Nat} (hn : n < 2 ^ 30) (en : I 42 10 = nI n) (hT : TgOK I m) (ha : cs J 44 al) (hF : cs J 43 F) : Ct γ mX9_walk 2 0 0 [.ref 42] (SS b c) I J (fun rt S' I' J' => some (.long (sumT (fwN m F al n) 96)) = rt ∧ (SS b c) = S' ∧ I = I' ∧ kJ [49, 50] J J') := by
  refine ct_of okX9_walk (L := [some (.ref 42), none, none, none]) (Nat.le_of_ble_eq_true rfl) rfl ?_
  refine r_run okX9_walk 2 (cs := []) (σ' := (2, [some (.ref 42), some (.int 0), none, none], [], (SS b c), I, J, 0, 0)) rfl trivial ?_
  have h := lp_wkA γ (b := b) (c := c) hn en hT ha hF 96 0 (J 49) (J 50) (by omega) (fun y hy => absurd hy (Nat.not_lt_zero y))
  rw [wJ_self] at h
  exact h
theorem in0_255 {I : AI} (hM : MLand I) {x : Nat} (hx : x < 96) : in0 I 255 x = true := by
  obtain ⟨k, hk, e⟩ := (hM x hx).1
  unfold in0
  rw [e]
  have : ∀ k, k < 8 → ((255 : Int32) >>> (nI k &&& 31)) &&& 1 = 1 := by decide +kernel
  rw [decide_eq_true (this k hk), Bool.or_true]
theorem o_all (γ : GE) {b c : Bool} {I : AI} {J : AJ} {n : Nat} {F : Nat → Bool} (hn : n < 2 ^ 30) (en : I 42 10 = nI n) (hT : TgOK I (I 100 6)) (hF : cs J 43 F) (hL : OLd I) (hM : MLand I) : Ct γ mX9_all 3 0 0 [.ref 42] (SS b c) I J (fun rt S' I' J' => some (.long (pthV I 255 n F)) = rt ∧ (SS b c) = S' ∧ I = I' ∧ kJ [44, 49, 50] J J') := by
  refine ct_of okX9_all (L := [some (.ref 42)]) (Nat.le_of_ble_eq_true rfl) rfl ?_
  refine r_run okX9_all 2 (cs := []) (σ' := (4, [some (.ref 42)], [.ref 44], (SS b c), I, J, 0, 0)) rfl trivial ?_
  refine r_callV okX9_all okX0_fill [] [] 44 rfl rfl rfl kkX0_fill rfl rfl (by decide) rfl rfl rfl (by decide) ⟨Nat.le_refl _, Nat.le_refl _⟩ (Nat.le_of_ble_eq_true rfl) (a_fill γ rfl) (fun v1 S1 I1 J1 hp => ?_)
  obtain ⟨rfl, rfl, rfl, J1, rfl, k1, c1⟩ := hp
  show Rj _ _ _ _ _ _ (7, [some (.ref 42)], [], (SS b c), I, J1, 0, 0)
  refine r_run okX9_all 1 (cs := []) (σ' := (8, [some (.ref 42)], [.ref 42], (SS b c), I, J1, 0, 0)) rfl trivial ?_
  refine r_callV okX9_all okX9_walk [] [] 42 rfl rfl rfl kkX9_walk rfl rfl (by decide) rfl rfl rfl (by decide) ⟨Nat.le_refl _, Nat.le_refl _⟩ (Nat.le_of_ble_eq_true rfl) (o_walk γ (m := I 100 6) hn en hT c1 (cs_k (k1 43 (by decide)) hF)) (fun v1 S1 I1 J1 hp => ?_)
  obtain ⟨rfl, rfl, rfl, k2⟩ := hp
  obtain ⟨J2, hJ2⟩ : ∃ z, z = J1 := ⟨_, rfl⟩
  subst hJ2
  show Rj _ _ _ _ _ _ (11, [some (.ref 42)], [.long (sumT (fwN (I 100 6) F (fun _ => true) n) 96)], (SS b c), I, J2, 0, 0)
  refine r_lret okX9_all rfl rfl (Nat.le_refl _) (Nat.le_refl _) ?_
  exact ⟨by rw [walk_eq (z := 255) (fun x hx => (in0_255 hM hx).symm)], rfl, rfl, kJ_t (kJ_m (by decide) k1) (kJ_m (by decide) k2)⟩
theorem o_within (γ : GE) {b c : Bool} {I : AI} {J : AJ} {n : Nat} {F : Nat → Bool} (hn : n < 2 ^ 30) (en : I 42 10 = nI n) (hT : TgOK I (I 100 6)) (hF : cs J 43 F) (hL : OLd I) (hM : MLand I) (z : Int32) : Ct γ mX9_within 3 0 0 [.ref 42, .int z] (SS b c) I J (fun rt S' I' J' => some (.long (pthV I z n F)) = rt ∧ (SS b c) = S' ∧ I = I' ∧ kJ [44, 49, 50] J J') := by
  refine ct_of okX9_within (L := [some (.ref 42), some (.int z)]) (Nat.le_of_ble_eq_true rfl) rfl ?_
  refine r_run okX9_within 5 (cs := []) (σ' := (9, [some (.ref 42), some (.int z)], [.ref 44, .int z, .ref 1], (SS b c), I, J, 0, 0)) rfl trivial ?_
  refine r_callV okX9_within okX2_fillHarmless [.int z, .ref 44] [] 1 rfl rfl rfl kkX2_fillHarmless rfl rfl (by decide) rfl rfl rfl (by decide) ⟨Nat.le_refl _, Nat.le_refl _⟩ (Nat.le_of_ble_eq_true rfl) (o_fillHarmless γ hL rfl z) (fun v1 S1 I1 J1 hp => ?_)
  obtain ⟨rfl, rfl, rfl, J1, rfl, k1, c1⟩ := hp
  show Rj _ _ _ _ _ _ (12, [some (.ref 42), some (.int z)], [], (SS b c), I, J1, 0, 0)
  refine r_run okX9_within 1 (cs := []) (σ' := (13, [some (.ref 42), some (.int z)], [.ref 42], (SS b c), I, J1, 0, 0)) rfl trivial ?_
  refine r_callV okX9_within okX9_walk [] [] 42 rfl rfl rfl kkX9_walk rfl rfl (by decide) rfl rfl rfl (by decide) ⟨Nat.le_refl _, Nat.le_refl _⟩ (Nat.le_of_ble_eq_true rfl) (o_walk γ (m := I 100 6) hn en hT c1 (cs_k (k1 43 (by decide)) hF)) (fun v1 S1 I1 J1 hp => ?_)
  obtain ⟨rfl, rfl, rfl, k2⟩ := hp
  obtain ⟨J2, hJ2⟩ : ∃ z, z = J1 := ⟨_, rfl⟩
  subst hJ2
  show Rj _ _ _ _ _ _ (16, [some (.ref 42), some (.int z)], [.long (sumT (fwN (I 100 6) F (in0 I z) n) 96)], (SS b c), I, J2, 0, 0)
  refine r_lret okX9_within rfl rfl (Nat.le_refl _) (Nat.le_refl _) ?_
  exact ⟨by rw [walk_eq (z := z) (fun x hx => rfl)], rfl, rfl, kJ_t (kJ_m (by decide) k1) (kJ_m (by decide) k2)⟩
/-- the targets are those of the moves that walks has, if it has any -/
def OWal (I : AI) : Prop := (I 42 11 = 0 ∨ TgOK I (I 42 11))
theorem TgOK_k {I I' : AI} {m : Int32} (h7 : I' 47 = I 47) (h8 : I' 48 = I 48) (h : TgOK I m) : TgOK I' m := by
  unfold TgOK Tg TgC; rw [h7, h8]; exact h
theorem o_wbegin (γ : GE) {b c : Bool} {I : AI} {J : AJ} {m : Int32} (h0 : ¬ m = 0) {n : Nat} {F : Nat → Bool} (hW : OWal I) (hF : cs J 77 F) : Ct γ mX9_begin 2 0 0 [.ref 42, .ref 77, .int m, .int (nI n)] (SS b c) I J (fun rt S' I' J' => none = rt ∧ (SS b c) = S' ∧ kI [42, 47, 48] I I' ∧ I' 42 10 = nI n ∧ I' 42 11 = m ∧ TgOK I' m ∧ kJ [43] J J' ∧ cs J' 43 F) := by
  refine ct_of okX9_begin (L := [some (.ref 42), some (.ref 77), some (.int m), some (.int (nI n))]) (Nat.le_of_ble_eq_true rfl) rfl ?_
  refine r_run okX9_begin 3 (cs := []) (σ' := (5, [some (.ref 42), some (.ref 77), some (.int m), some (.int (nI n))], [.ref 77, .ref 43], (SS b c), I, J, 0, 0)) rfl trivial ?_
  refine r_callV okX9_begin okX0_copy [.ref 77] [] 43 rfl rfl rfl kkX0_copy rfl rfl (by decide) rfl rfl rfl (by decide) ⟨Nat.le_refl _, Nat.le_refl _⟩ (Nat.le_of_ble_eq_true rfl) (a_copy γ rfl rfl hF) (fun v1 S1 I1 J1 hp => ?_)
  obtain ⟨rfl, rfl, rfl, J1, rfl, k1, c1⟩ := hp
  show Rj _ _ _ _ _ _ (8, [some (.ref 42), some (.ref 77), some (.int m), some (.int (nI n))], [], (SS b c), I, J1, 0, 0)
  refine r_run okX9_begin 6 (cs := []) (σ' := (18, [some (.ref 42), some (.ref 77), some (.int m), some (.int (nI n))], [.int m, .int (I 42 11)], (SS b c), (upI I 42 10 (nI n)), J1, 0, 0)) rfl trivial ?_
  refine r_icmp okX9_begin rfl (fun (h18 : (I 42 11) = m) => ?_) (fun (h18 : ¬ (I 42 11) = m) => ?_)
  · refine r_vret okX9_begin rfl rfl (Nat.le_refl _) (Nat.le_refl _) ?_
    have e : I 42 11 = m := h18
    refine ⟨rfl, rfl, kI_up (by decide), rfl, e, ?_, k1, c1⟩
    rcases hW with h | h
    · exact absurd (e.symm.trans h) h0
    · exact TgOK_k rfl rfl (e ▸ h)
  · refine r_run okX9_begin 4 (cs := []) (σ' := (27, [some (.ref 42), some (.ref 77), some (.int m), some (.int (nI n))], [.ref 42], (SS b c), (upI (upI I 42 10 (nI n)) 42 11 m), J1, 0, 0)) rfl trivial ?_
    refine r_callV okX9_begin okX9_listTargets [] [] 42 rfl rfl rfl kkX9_listTargets rfl rfl (by decide) rfl rfl rfl (by decide) ⟨Nat.le_refl _, Nat.le_refl _⟩ (Nat.le_of_ble_eq_true rfl) (o_listTargets γ (m := m) rfl) (fun v1 S1 I1 J1 hp => ?_)
    obtain ⟨rfl, rfl, hz, hT, rfl⟩ := hp
    obtain ⟨Iz, eIz⟩ : ∃ z, z = I1 := ⟨_, rfl⟩
    subst eIz
    show Rj _ _ _ _ _ _ (30, [some (.ref 42), some (.ref 77), some (.int m), some (.int (nI n))], [], (SS b c), Iz, J1, 0, 0)
    refine r_vret okX9_begin rfl rfl (Nat.le_refl _) (Nat.le_refl _) ?_
    refine ⟨rfl, rfl, kI_t (kI_t (kI_up (by decide)) (kI_up (by decide))) (kI_m (by decide) hz), ?_, ?_, hT, k1, c1⟩
    · rw [hz 42 (by decide)]; rfl
    · rw [hz 42 (by decide)]; rfl
