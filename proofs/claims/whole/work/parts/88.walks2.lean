/-! ===== Walks: takeStep, walk ===== -/
def wJ (J : AJ) (u v : Nat → Int64) : AJ := fun a => if a = 49 then u else if a = 50 then v else J a
theorem wJ_self {J : AJ} : wJ J (J 49) (J 50) = J := by
  funext a; unfold wJ; split
  · rename_i h; rw [h]
  · split
    · rename_i h; rw [h]
    · rfl
theorem wJ_9 {J : AJ} {u v : Nat → Int64} {k : Nat} : wJ J u v 49 k = u k := rfl
theorem wJ_5 {J : AJ} {u v : Nat → Int64} {k : Nat} : wJ J u v 50 k = v k := rfl
theorem wJ_u {J : AJ} {u v : Nat → Int64} {k : Nat} {x : Int64} : upJ (wJ J u v) 49 k x = wJ J (vp_updL u k x) v := by
  funext a z; unfold upJ wJ vp_updL; by_cases h : a = 49 <;> simp [h]
theorem wJ_v {J : AJ} {u v : Nat → Int64} {k : Nat} {x : Int64} : upJ (wJ J u v) 50 k x = wJ J u (vp_updL v k x) := by
  funext a z; unfold upJ wJ vp_updL
  by_cases h : a = 49
  · simp [h]
  · by_cases h1 : a = 50 <;> simp [h, h1]
theorem wJ_fl {J : AJ} {u v : Nat → Int64} {n : Nat} {x : Int64} : flJ (wJ J u v) 50 n x = wJ J u (fun y => if y < n then x else v y) := by
  funext a z; unfold flJ wJ
  by_cases h : a = 49
  · simp [h]
  · by_cases h1 : a = 50 <;> simp [h, h1]
theorem wJ_k {J : AJ} {u v : Nat → Int64} : kJ [49, 50] J (wJ J u v) := fun a q => by
  unfold wJ; rw [if_neg (fun z => q (by simp [z])), if_neg (fun z => q (by simp [z]))]
theorem wJ_2 {J : AJ} {u v u' v' : Nat → Int64} : wJ (wJ J u v) u' v' = wJ J u' v' := by
  funext a; unfold wJ; by_cases h : a = 49 <;> by_cases h1 : a = 50 <;> simp [h, h1]
def pshL (x : Nat) (h : Int64) : List Nat → (Nat → Int64) → (Nat → Int64)
  | [], g => g
  | d :: l, g => pshL x h l (vp_updL g (mvT x d) (g (mvT x d) + h))
def nwF (m : Int32) (u g : Nat → Int64) : Nat → (Nat → Int64)
  | 0 => g
  | n + 1 => if u n = 0 then nwF m u g n else pshL n (u n) (mvl m n 9) (nwF m u g n)
def stN (m : Int32) (u : Nat → Int64) (y : Nat) : Int64 := sumW (fun x => sumW (fun _ => u x) (fun d => mvS m x d && decide (mvT x d = y)) 9) (fun _ => true) 96
theorem psh_app {x : Nat} {h : Int64} {d : Nat} : ∀ {l : List Nat} {g : Nat → Int64}, pshL x h (l ++ [d]) g = vp_updL (pshL x h l g) (mvT x d) (pshL x h l g (mvT x d) + h)
  | [], g => rfl
  | e :: l, g => by show pshL x h (l ++ [d]) _ = _; rw [psh_app]; rfl
theorem psh_y {m : Int32} {x : Nat} {h : Int64} {g : Nat → Int64} {y : Nat} : ∀ n, pshL x h (mvl m x n) g y = g y + sumW (fun _ => h) (fun d => mvS m x d && decide (mvT x d = y)) n
  | 0 => by show g y = g y + 0; rw [Int64.add_zero]
  | n + 1 => by
    unfold sumW
    cases e : mvS m x n with
    | false => rw [mvl_s0 e, psh_y n]; simp
    | true =>
      rw [mvl_s1 e, psh_app]
      by_cases q : mvT x n = y
      · rw [← q, pk_uLs, q, psh_y n]; simp [q, Int64.add_assoc]
      · rw [pk_uLn (fun z => q z.symm), psh_y n]; simp [q]
theorem sumW_0 {p : Nat → Bool} : ∀ n, sumW (fun _ => 0) p n = 0
  | 0 => rfl
  | n + 1 => by unfold sumW; rw [sumW_0 n]; split <;> simp
theorem nw_y {m : Int32} {u g : Nat → Int64} {y : Nat} : ∀ n, nwF m u g n y = g y + sumW (fun x => sumW (fun _ => u x) (fun d => mvS m x d && decide (mvT x d = y)) 9) (fun _ => true) n
  | 0 => by show g y = g y + 0; rw [Int64.add_zero]
  | n + 1 => by
    unfold nwF sumW
    rw [if_pos rfl]
    by_cases h : u n = 0
    · rw [if_pos h, nw_y n, h, sumW_0, Int64.add_zero]
    · rw [if_neg h, psh_y, nw_y n, Int64.add_assoc]
theorem mvl_mem {m : Int32} {x n d : Nat} (h : d ∈ mvl m x n) : d < n ∧ mvS m x d = true := by
  unfold mvl at h
  rw [List.mem_filter, List.mem_range] at h
  exact h
theorem mvT_lt {m : Int32} {x d : Nat} (hx : x < 96) (h : d ∈ mvl m x 9) : mvT x d < 96 := by
  obtain ⟨h1, h2⟩ := mvl_mem h
  unfold mvS at h2
  rw [Bool.and_eq_true] at h2
  exact ((mv_dec x hx d h1).2 h2.2).2
theorem lp_st1 (γ : GE) {b c : Bool} {I : AI} {J : AJ} {Post : PT} {m : Int32} {q e : Nat} {h : Int64} {u V : Nat → Int64} (hq : q < 96) (he : e ≤ 864) (ee : offW m q + (mvl m q 9).length = e) (hT : TgC I m q 9) (K : Rj γ mX9_takeStep 1 0 0 Post (79, [some (.ref 42), some (.int (nI q)), none, none, none, none], [], (SS b c), I, (wJ J u V), 0, 0)) : ∀ (l : List Nat) (k : Nat) (v : Nat → Int64), (mvl m q 9).drop k = l → k + l.length = (mvl m q 9).length → pshL q h l v = V → Rj γ mX9_takeStep 1 0 0 Post (50, [some (.ref 42), some (.int (nI q)), some (.long h), none, some (.int (nI e)), some (.int (nI (offW m q + k)))], [], (SS b c), I, (wJ J u v), 0, 0) := by
  intro l
  induction l with
  | nil =>
    intro k v hd hl hV
    have hl : k = (mvl m q 9).length := hl
    refine r_run okX9_takeStep 2 (cs := []) (σ' := (54, [some (.ref 42), some (.int (nI q)), some (.long h), none, some (.int (nI e)), some (.int (nI (offW m q + k)))], [.int (nI e), .int (nI (offW m q + k))], (SS b c), I, (wJ J u v), 0, 0)) rfl trivial ?_
    refine r_icmp okX9_takeStep rfl (fun (h54 : (nI e) ≤ (nI (offW m q + k))) => ?_) (fun (h54 : ¬ (nI e) ≤ (nI (offW m q + k))) => ?_)
    · refine r_weak (L' := [some (.ref 42), some (.int (nI q)), none, none, none, none]) ⟨rfl, rfl, trivial⟩ ?_
      rw [show v = V from hV]
      exact K
    · exact absurd (nI_le (by omega) (by omega)) h54
  | cons d l ih =>
    intro k v hd hl hV
    rw [List.length_cons] at hl
    have hg : (mvl m q 9)[k]? = some d := by
      have := congrArg (fun z => z[0]?) hd
      simp only [List.getElem?_drop, Nat.add_zero, List.getElem?_cons_zero] at this
      exact this
    have e47 := hT k d hg
    have hlt := mvT_lt hq (List.mem_of_getElem? hg)
    have ck : (nI (offW m q + k)).toNatClampNeg = offW m q + k := nI_clamp (by omega)
    have cm : (nI (mvT q d)).toNatClampNeg = mvT q d := nI_clamp (by omega)
    refine r_run okX9_takeStep 2 (cs := []) (σ' := (54, [some (.ref 42), some (.int (nI q)), some (.long h), none, some (.int (nI e)), some (.int (nI (offW m q + k)))], [.int (nI e), .int (nI (offW m q + k))], (SS b c), I, (wJ J u v), 0, 0)) rfl trivial ?_
    refine r_icmp okX9_takeStep rfl (fun (h54 : (nI e) ≤ (nI (offW m q + k))) => ?_) (fun (h54 : ¬ (nI e) ≤ (nI (offW m q + k))) => ?_)
    · exact absurd h54 (nI_ge (by omega) (by omega))
    · refine r_run okX9_takeStep 13 (cs := [vp_in (nI (offW m q + k)) 864, vp_in (I 47 ((nI (offW m q + k)).toNatClampNeg)) 96, vp_in (I 47 ((nI (offW m q + k)).toNatClampNeg)) 96]) (σ' := (50, [some (.ref 42), some (.int (nI q)), some (.long h), none, some (.int (nI e)), some (.int ((nI (offW m q + k)) + 1))], [], (SS b c), I, (upJ (wJ J u v) 50 ((I 47 ((nI (offW m q + k)).toNatClampNeg)).toNatClampNeg) (((wJ J u v) 50 ((I 47 ((nI (offW m q + k)).toNatClampNeg)).toNatClampNeg)) + h)), 0, 0)) rfl ⟨(vin (by omega) (by decide)), (by rw [ck, e47]; exact vin hlt (by decide)), (by rw [ck, e47]; exact vin hlt (by decide)), trivial⟩ ?_
      simp only [ck, e47, cm]
      show Rj _ _ _ _ _ _ (50, [some (.ref 42), some (.int (nI q)), some (.long h), none, some (.int (nI e)), some (.int ((nI (offW m q + k)) + 1))], [], (SS b c), I, (upJ (wJ J u v) 50 (mvT q d) (((wJ J u v) 50 (mvT q d)) + h)), 0, 0)
      rw [wJ_v, nI_eq1]
      exact ih (k + 1) _ (by rw [← List.drop_drop, hd]; rfl) (by omega) hV
theorem lp_st2 (γ : GE) {b c : Bool} {I : AI} {J : AJ} {Post : PT} {m : Int32} {u g : Nat → Int64} (hT : TgOK I m) (K : Rj γ mX9_takeStep 1 0 0 Post (85, [some (.ref 42), none, none, none, none, none], [], (SS b c), I, (wJ J u (nwF m u g 96)), 0, 0)) : ∀ (j q : Nat), q + j = 96 → Rj γ mX9_takeStep 1 0 0 Post (10, [some (.ref 42), some (.int (nI q)), none, none, none, none], [], (SS b c), I, (wJ J u (nwF m u g q)), 0, 0) := by
  intro j
  induction j with
  | zero =>
    intro q hj
    refine r_run okX9_takeStep 2 (cs := []) (σ' := (13, [some (.ref 42), some (.int (nI q)), none, none, none, none], [.int 96, .int (nI q)], (SS b c), I, (wJ J u (nwF m u g q)), 0, 0)) rfl trivial ?_
    refine r_icmp okX9_takeStep rfl (fun (h13 : (96 : Int32) ≤ (nI q)) => ?_) (fun (h13 : ¬ (96 : Int32) ≤ (nI q)) => ?_)
    · have e : q = 96 := by omega
      subst e
      refine r_weak (L' := [some (.ref 42), none, none, none, none, none]) ⟨rfl, trivial⟩ ?_
      exact K
    · exact absurd (nI_le (a := 96) (b := q) (by omega) (by omega)) h13
  | succ j ih =>
    intro q hj
    have cq : (nI q).toNatClampNeg = q := nI_clamp (by omega)
    have cq1 : (nI (q + 1)).toNatClampNeg = q + 1 := nI_clamp (by omega)
    have e0 := (hT.1 q (by omega)).1
    have e1 : I 48 (q + 1) = nI (offW m (q + 1)) := by
      by_cases z : q = 95
      · rw [z]; exact hT.2
      · exact (hT.1 (q + 1) (by omega)).1
    refine r_run okX9_takeStep 2 (cs := []) (σ' := (13, [some (.ref 42), some (.int (nI q)), none, none, none, none], [.int 96, .int (nI q)], (SS b c), I, (wJ J u (nwF m u g q)), 0, 0)) rfl trivial ?_
    refine r_icmp okX9_takeStep rfl (fun (h13 : (96 : Int32) ≤ (nI q)) => ?_) (fun (h13 : ¬ (96 : Int32) ≤ (nI q)) => ?_)
    · exact absurd h13 (nI_ge (a := q) (b := 96) (by omega) (by decide))
    · refine r_run okX9_takeStep 8 (cs := [vp_in (nI q) 96]) (σ' := (26, [some (.ref 42), some (.int (nI q)), some (.long ((wJ J u (nwF m u g q)) 49 ((nI q).toNatClampNeg))), none, none, none], [.int (lg_cmp ((wJ J u (nwF m u g q)) 49 ((nI q).toNatClampNeg)) 0)], (SS b c), I, (wJ J u (nwF m u g q)), 0, 0)) rfl ⟨(vin (by omega) (by decide)), trivial⟩ ?_
      simp only [cq, wJ_9]
      show Rj _ _ _ _ _ _ (26, [some (.ref 42), some (.int (nI q)), some (.long (u q)), none, none, none], [.int (lg_cmp (u q) 0)], (SS b c), I, (wJ J u (nwF m u g q)), 0, 0)
      refine r_ifc okX9_takeStep rfl (fun (h26 : ¬ (lg_cmp (u q) 0) = (0 : Int32)) => ?_) (fun h260 => ?_)
      · refine r_run okX9_takeStep 12 (cs := [vp_in ((nI q) + 1) 97, vp_in (nI q) 97]) (σ' := (50, [some (.ref 42), some (.int (nI q)), some (.long (u q)), none, some (.int (I 48 (((nI q) + 1).toNatClampNeg))), some (.int (I 48 ((nI q).toNatClampNeg)))], [], (SS b c), I, (wJ J u (nwF m u g q)), 0, 0)) rfl ⟨(by rw [nI_eq1]; exact vin (by omega) (by decide)), (vin (by omega) (by decide)), trivial⟩ ?_
        simp only [cq, nI_eq1, cq1, e1, e0]
        show Rj _ _ _ _ _ _ (50, [some (.ref 42), some (.int (nI q)), some (.long (u q)), none, some (.int (nI (offW m (q + 1)))), some (.int (nI (offW m q)))], [], (SS b c), I, (wJ J u (nwF m u g q)), 0, 0)
        have h := lp_st1 γ (I := I) (J := J) (b := b) (c := c) (m := m) (q := q) (e := offW m (q + 1)) (h := u q) (u := u) (V := pshL q (u q) (mvl m q 9) (nwF m u g q)) (Post := Post) (by omega) (by have := off_le (m := m) (q + 1); omega) rfl (hT.1 q (by omega)).2 ?_ (mvl m q 9) 0 (nwF m u g q) rfl (by omega) rfl
        · exact h
        · refine r_run okX9_takeStep 2 (cs := []) (σ' := (10, [some (.ref 42), some (.int ((nI q) + 1)), none, none, none, none], [], (SS b c), I, (wJ J u (pshL q (u q) (mvl m q 9) (nwF m u g q))), 0, 0)) rfl trivial ?_
          simp only [nI_eq1]
          show Rj _ _ _ _ _ _ (10, [some (.ref 42), some (.int (nI (q + 1))), none, none, none, none], [], (SS b c), I, (wJ J u (pshL q (u q) (mvl m q 9) (nwF m u g q))), 0, 0)
          rw [show pshL q (u q) (mvl m q 9) (nwF m u g q) = nwF m u g (q + 1) by rw [nwF, if_neg (fun z => h26 ((lg_cmp_eq _ _).mpr z))]]
          exact ih (q + 1) (by omega)
      · have h26 : (lg_cmp (u q) 0) = (0 : Int32) := Classical.not_not.mp h260
        refine r_run okX9_takeStep 3 (cs := []) (σ' := (10, [some (.ref 42), some (.int ((nI q) + 1)), some (.long (u q)), none, none, none], [], (SS b c), I, (wJ J u (nwF m u g q)), 0, 0)) rfl trivial ?_
        simp only [nI_eq1]
        show Rj _ _ _ _ _ _ (10, [some (.ref 42), some (.int (nI (q + 1))), some (.long (u q)), none, none, none], [], (SS b c), I, (wJ J u (nwF m u g q)), 0, 0)
        refine r_weak (L' := [some (.ref 42), some (.int (nI (q + 1))), none, none, none, none]) ⟨rfl, rfl, trivial⟩ ?_
        rw [show nwF m u g q = nwF m u g (q + 1) by rw [nwF, if_pos ((lg_cmp_eq _ _).mp h26)]]
        exact ih (q + 1) (by omega)
theorem lp_st3 (γ : GE) {b c : Bool} {I : AI} {J : AJ} {V : Nat → Int64} {al : Nat → Bool} (ha : cs J 44 al) : ∀ (j q : Nat) (u : Nat → Int64), q + j = 96 → (∀ y, y < q → u y = if al y then V y else 0) → Rj γ mX9_takeStep 1 0 0 (fun rt S' I' J' => none = rt ∧ (SS b c) = S' ∧ I = I' ∧ ∃ u' v', J' = wJ J u' v' ∧ ∀ y, y < 96 → u' y = if al y then V y else 0) (87, [some (.ref 42), some (.int (nI q)), none, none, none, none], [], (SS b c), I, (wJ J u V), 0, 0) := by
  intro j
  induction j with
  | zero =>
    intro q u hj hu
    refine r_run okX9_takeStep 2 (cs := []) (σ' := (90, [some (.ref 42), some (.int (nI q)), none, none, none, none], [.int 96, .int (nI q)], (SS b c), I, (wJ J u V), 0, 0)) rfl trivial ?_
    refine r_icmp okX9_takeStep rfl (fun (h90 : (96 : Int32) ≤ (nI q)) => ?_) (fun (h90 : ¬ (96 : Int32) ≤ (nI q)) => ?_)
    · refine r_vret okX9_takeStep rfl rfl (Nat.le_refl _) (Nat.le_refl _) ?_
      exact ⟨rfl, rfl, rfl, u, V, rfl, fun y hy => hu y (by omega)⟩
    · exact absurd (nI_le (a := 96) (b := q) (by omega) (by omega)) h90
  | succ j ih =>
    intro q u hj hu
    have cq : (nI q).toNatClampNeg = q := nI_clamp (by omega)
    refine r_run okX9_takeStep 2 (cs := []) (σ' := (90, [some (.ref 42), some (.int (nI q)), none, none, none, none], [.int 96, .int (nI q)], (SS b c), I, (wJ J u V), 0, 0)) rfl trivial ?_
    refine r_icmp okX9_takeStep rfl (fun (h90 : (96 : Int32) ≤ (nI q)) => ?_) (fun (h90 : ¬ (96 : Int32) ≤ (nI q)) => ?_)
    · exact absurd h90 (nI_ge (a := q) (b := 96) (by omega) (by decide))
    · refine r_run okX9_takeStep 6 (cs := []) (σ' := (103, [some (.ref 42), some (.int (nI q)), none, none, none, none], [.int (nI q), .ref 44, .int (nI q), .ref 49], (SS b c), I, (wJ J u V), 0, 0)) rfl trivial ?_
      refine r_callV okX9_takeStep okX0_has [.int (nI q)] [.int (nI q), .ref 49] 44 rfl rfl rfl kkX0_has rfl rfl (by decide) rfl rfl rfl (by decide) ⟨Nat.le_refl _, Nat.le_refl _⟩ (Nat.le_of_ble_eq_true rfl) (a_has γ rfl (cs_k (J := J) (J' := wJ J u V) rfl ha) (x := q) (by omega) rfl) (fun v1 S1 I1 J1 hp => ?_)
      obtain ⟨rfl, rfl, rfl, rfl⟩ := hp
      show Rj _ _ _ _ _ _ (106, [some (.ref 42), some (.int (nI q)), none, none, none, none], [.int (bi (al q)), .int (nI q), .ref 49], (SS b c), I, (wJ J u V), 0, 0)
      refine r_ifc okX9_takeStep rfl (fun (h106 : (bi (al q)) = (0 : Int32)) => ?_) (fun (h106 : ¬ (bi (al q)) = (0 : Int32)) => ?_)
      · refine r_run okX9_takeStep 4 (cs := [vp_in (nI q) 96]) (σ' := (87, [some (.ref 42), some (.int ((nI q) + 1)), none, none, none, none], [], (SS b c), I, (upJ (wJ J u V) 49 ((nI q).toNatClampNeg) 0), 0, 0)) rfl ⟨(vin (by omega) (by decide)), trivial⟩ ?_
        simp only [cq]
        show Rj _ _ _ _ _ _ (87, [some (.ref 42), some (.int ((nI q) + 1)), none, none, none, none], [], (SS b c), I, (upJ (wJ J u V) 49 q 0), 0, 0)
        rw [wJ_u, nI_eq1]
        refine ih (q + 1) _ (by omega) (fun y hy => ?_)
        by_cases e : y = q
        · rw [e, pk_uLs, if_neg (by rw [bi_0.mp h106]; decide)]
        · rw [pk_uLn e]; exact hu y (by omega)
      · refine r_run okX9_takeStep 8 (cs := [vp_in (nI q) 96, vp_in (nI q) 96]) (σ' := (87, [some (.ref 42), some (.int ((nI q) + 1)), none, none, none, none], [], (SS b c), I, (upJ (wJ J u V) 49 ((nI q).toNatClampNeg) ((wJ J u V) 50 ((nI q).toNatClampNeg))), 0, 0)) rfl ⟨(vin (by omega) (by decide)), (vin (by omega) (by decide)), trivial⟩ ?_
        simp only [cq, wJ_5]
        show Rj _ _ _ _ _ _ (87, [some (.ref 42), some (.int ((nI q) + 1)), none, none, none, none], [], (SS b c), I, (upJ (wJ J u V) 49 q (V q)), 0, 0)
        rw [wJ_u, nI_eq1]
        refine ih (q + 1) _ (by omega) (fun y hy => ?_)
        by_cases e : y = q
        · rw [e, pk_uLs, if_pos (bi_n0.mp h106)]
        · rw [pk_uLn e]; exact hu y (by omega)
theorem o_takeStep0 (γ : GE) {b c : Bool} {I : AI} {J : AJ} {m : Int32} {u v : Nat → Int64} {al : Nat → Bool} (hT : TgOK I m) (ha : cs J 44 al) : Ct γ mX9_takeStep 1 0 0 [.ref 42] (SS b c) I (wJ J u v) (fun rt S' I' J' => none = rt ∧ (SS b c) = S' ∧ I = I' ∧ ∃ u' v', J' = wJ J u' v' ∧ ∀ y, y < 96 → u' y = if al y then stN m u y else 0) := by
  refine ct_of okX9_takeStep (L := [some (.ref 42), none, none, none, none, none]) (Nat.le_of_ble_eq_true rfl) rfl ?_
  refine r_run okX9_takeStep 3 (cs := []) (σ' := (5, [some (.ref 42), none, none, none, none, none], [.long 0, .ref 50], (SS b c), I, (wJ J u v), 0, 0)) rfl trivial ?_
  refine r_callS okX9_takeStep okJ7_fill_d0a16 [.ref 50, .long 0] [] rfl rfl rfl kkJ7_fill_d0a16 rfl rfl (by decide) (by decide) ⟨Nat.le_refl _, Nat.le_refl _⟩ (Nat.le_of_ble_eq_true rfl) (c_fill_long γ rfl (by decide) 0) (fun v1 S1 I1 J1 hp => ?_)
  obtain ⟨rfl, rfl, rfl, rfl⟩ := hp
  show Rj _ _ _ _ _ _ (8, [some (.ref 42), none, none, none, none, none], [], (SS b c), I, (flJ (wJ J u v) 50 96 0), 0, 0)
  simp only [wJ_fl]
  show Rj _ _ _ _ _ _ (8, [some (.ref 42), none, none, none, none, none], [], (SS b c), I, (wJ J u (fun y => if y < 96 then 0 else v y)), 0, 0)
  refine r_run okX9_takeStep 2 (cs := []) (σ' := (10, [some (.ref 42), some (.int 0), none, none, none, none], [], (SS b c), I, (wJ J u (fun y => if y < 96 then 0 else v y)), 0, 0)) rfl trivial ?_
  have h := lp_st2 γ (I := I) (J := J) (b := b) (c := c) (m := m) (u := u) (g := (fun y => if y < 96 then 0 else v y)) (Post := (fun rt S' I' J' => none = rt ∧ (SS b c) = S' ∧ I = I' ∧ ∃ u' v', J' = wJ J u' v' ∧ ∀ y, y < 96 → u' y = if al y then stN m u y else 0)) hT ?_ 96 0 (by omega)
  · exact h
  · refine r_run okX9_takeStep 2 (cs := []) (σ' := (87, [some (.ref 42), some (.int 0), none, none, none, none], [], (SS b c), I, (wJ J u (nwF m u (fun y => if y < 96 then 0 else v y) 96)), 0, 0)) rfl trivial ?_
    refine r_post (fun rt S1 I1 J1 hp => ?_) (lp_st3 γ (V := nwF m u (fun y => if y < 96 then 0 else v y) 96) ha 96 0 u (by omega) (fun y hy => absurd hy (Nat.not_lt_zero y)))
    obtain ⟨a1, a2, a3, u1, v1, a4, a5⟩ := hp
    refine ⟨a1, a2, a3, u1, v1, a4, fun y hy => ?_⟩
    rw [a5 y hy, nw_y]
    simp only [if_pos hy, Int64.zero_add]
    rfl
