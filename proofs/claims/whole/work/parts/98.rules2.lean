/-! ===== Rules: lines ===== -/
theorem sQ_2 {a0 : Nat} {I : AI} {g g1 : Nat → Int32} : sQ a0 (sQ a0 I g) g1 = sQ a0 I g1 := by funext a; unfold sQ; split <;> rfl
theorem cdT_k {I I' : AI} {A : Nat} (h1 : I' (A + 1) = I (A + 1)) (h2 : I' (A + 2) = I (A + 2)) : ∀ {c : Cd} {k : Nat}, cdT I A k c → cdT I' A k c
  | [], _, _ => trivial
  | p :: c, k, h => ⟨by rw [h1]; exact h.1, by rw [h2]; exact h.2.1, cdT_k h1 h2 h.2.2⟩
def OLn (I : AI) (A k : Nat) (q : Ln) : Prop := ∃ f w e : Nat, f + q.2.1.length = w ∧ w + q.2.2.length = e ∧ e ≤ 800 ∧ I (A + 3) k = q.1 ∧ I (A + 4) k = nI f ∧ I (A + 5) k = nI w ∧ I (A + 6) k = nI e ∧ cdT I A f q.2.1 ∧ cdT I A w q.2.2
/-- the office's rules -/
def ORul (I : AI) (A : Nat) (ls : List Ln) : Prop := ls.length ≤ 16 ∧ I A 8 = nI ls.length ∧ ∀ k q, ls[k]? = some q → OLn I A k q ∧ lnOK q
theorem ORul_k {I I' : AI} {A : Nat} {ls : List Ln} (h : ∀ a, A ≤ a → a ≤ A + 6 → I' a = I a) (hO : ORul I A ls) : ORul I' A ls := by
  refine ⟨hO.1, by rw [h A (by omega) (by omega)]; exact hO.2.1, fun k q hq => ?_⟩
  obtain ⟨⟨f, w, e, a1, a2, a3, a4, a5, a6, a7, a8, a9⟩, hl⟩ := hO.2.2 k q hq
  have h1 := h (A + 1) (by omega) (by omega); have h2 := h (A + 2) (by omega) (by omega)
  exact ⟨⟨f, w, e, a1, a2, a3, by rw [h (A + 3) (by omega) (by omega)]; exact a4, by rw [h (A + 4) (by omega) (by omega)]; exact a5, by rw [h (A + 5) (by omega) (by omega)]; exact a6, by rw [h (A + 6) (by omega) (by omega)]; exact a7, cdT_k h1 h2 a8, cdT_k h1 h2 a9⟩, hl⟩
theorem ORul_ok {I : AI} {A : Nat} {ls : List Ln} (h : ORul I A ls) : ∀ q ∈ ls, lnOK q := fun q hq => by
  obtain ⟨k, hk, e⟩ := List.mem_iff_getElem.mp hq
  exact (h.2.2 k q (by rw [List.getElem?_eq_getElem hk, e])).2
def spnV (h : Nat → Int32) (c : Cd) : Int32 := if 1 < (if valC h c < 60 then valC h c else 60) then (if valC h c < 60 then valC h c else 60) else 1
theorem o_rsize79 (γ : GE) {b c : Bool} {I : AI} {J : AJ} : Ct γ mX6_size 0 0 0 [.ref 79] (SS b c) I J (rI (I 79 8) (SS b c) I J) := by
  refine ct_of okX6_size (L := [some (.ref 79)]) (Nat.le_of_ble_eq_true rfl) rfl ?_
  refine r_run okX6_size 2 (cs := []) (σ' := (4, [some (.ref 79)], [.int (I 79 8)], (SS b c), I, J, 0, 0)) rfl trivial ?_
  refine r_iret okX6_size rfl rfl rfl (Nat.le_refl _) (Nat.le_refl _) ?_
  exact ⟨rfl, rfl, rfl, rfl⟩
theorem o_rclear79 (γ : GE) {b c : Bool} {I : AI} {J : AJ} : Ct γ mX6_clear 0 0 0 [.ref 79] (SS b c) I J (rV (SS b c) (upI (upI I 79 7 0) 79 8 0) J) := by
  refine ct_of okX6_clear (L := [some (.ref 79)]) (Nat.le_of_ble_eq_true rfl) rfl ?_
  refine r_run okX6_clear 6 (cs := []) (σ' := (10, [some (.ref 79)], [], (SS b c), (upI (upI I 79 7 0) 79 8 0), J, 0, 0)) rfl trivial ?_
  refine r_vret okX6_clear rfl rfl (Nat.le_refl _) (Nat.le_refl _) ?_
  exact ⟨rfl, rfl, rfl, rfl⟩
theorem o_radd79 (γ : GE) {b c : Bool} {I : AI} {J : AJ} {n : Nat} (hn : n < 800) (en : I 79 7 = nI n) (x y : Int32) : Ct γ mX6_add 0 0 0 [.ref 79, .int x, .int y] (SS b c) I J (rI 1 (SS b c) (upI (upI (upI I 80 n x) 81 n y) 79 7 (nI n + 1)) J) := by
  have cn : (nI n).toNatClampNeg = n := nI_clamp (by omega)
  refine ct_of okX6_add (L := [some (.ref 79), some (.int x), some (.int y)]) (Nat.le_of_ble_eq_true rfl) rfl ?_
  refine r_run okX6_add 3 (cs := []) (σ' := (7, [some (.ref 79), some (.int x), some (.int y)], [.int 800, .int (I 79 7)], (SS b c), I, J, 0, 0)) rfl trivial ?_
  simp only [en]
  show Rj _ _ _ _ _ _ (7, [some (.ref 79), some (.int x), some (.int y)], [.int 800, .int (nI n)], (SS b c), I, J, 0, 0)
  refine r_icmp okX6_add rfl (fun (h7 : (nI n) < (800 : Int32)) => ?_) (fun (h7 : ¬ (nI n) < (800 : Int32)) => ?_)
  · refine r_run okX6_add 19 (cs := [vp_in (I 79 7) 800, vp_in (I 79 7) 800]) (σ' := (43, [some (.ref 79), some (.int x), some (.int y)], [.int 1], (SS b c), (upI (upI (upI I 80 ((I 79 7).toNatClampNeg) x) 81 ((I 79 7).toNatClampNeg) y) 79 7 ((I 79 7) + 1)), J, 0, 0)) rfl ⟨(by rw [en]; exact vin hn (by decide)), (by rw [en]; exact vin hn (by decide)), trivial⟩ ?_
    simp only [en, cn]
    show Rj _ _ _ _ _ _ (43, [some (.ref 79), some (.int x), some (.int y)], [.int 1], (SS b c), (upI (upI (upI I 80 n x) 81 n y) 79 7 ((nI n) + 1)), J, 0, 0)
    refine r_iret okX6_add rfl rfl (by decide +kernel) (Nat.le_refl _) (Nat.le_refl _) ?_
    exact ⟨rfl, rfl, rfl, rfl⟩
  · exact absurd (nI_lt (a := n) (b := 800) hn (by decide)) h7
theorem o_openLine79 (γ : GE) {b c : Bool} {I : AI} {J : AJ} {n : Nat} (hn : n < 16) (en : I 79 8 = nI n) (x : Int32) : Ct γ mX6_openLine 0 0 0 [.ref 79, .int x] (SS b c) I J (rV (SS b c) (upI (upI I 82 n x) 83 n (I 79 7)) J) := by
  have cn : (nI n).toNatClampNeg = n := nI_clamp (by omega)
  refine ct_of okX6_openLine (L := [some (.ref 79), some (.int x)]) (Nat.le_of_ble_eq_true rfl) rfl ?_
  refine r_run okX6_openLine 3 (cs := []) (σ' := (6, [some (.ref 79), some (.int x)], [.int 16, .int (I 79 8)], (SS b c), I, J, 0, 0)) rfl trivial ?_
  simp only [en]
  show Rj _ _ _ _ _ _ (6, [some (.ref 79), some (.int x)], [.int 16, .int (nI n)], (SS b c), I, J, 0, 0)
  refine r_icmp okX6_openLine rfl (fun (h6 : (16 : Int32) ≤ (nI n)) => ?_) (fun (h6 : ¬ (16 : Int32) ≤ (nI n)) => ?_)
  · exact absurd h6 (nI_ge (a := n) (b := 16) hn (by decide))
  · refine r_run okX6_openLine 13 (cs := [vp_in (I 79 8) 16, vp_in (I 79 8) 16]) (σ' := (32, [some (.ref 79), some (.int x)], [], (SS b c), (upI (upI I 82 ((I 79 8).toNatClampNeg) x) 83 ((I 79 8).toNatClampNeg) (I 79 7)), J, 0, 0)) rfl ⟨(by rw [en]; exact vin hn (by decide)), (by rw [en]; exact vin hn (by decide)), trivial⟩ ?_
    simp only [en, cn]
    show Rj _ _ _ _ _ _ (32, [some (.ref 79), some (.int x)], [], (SS b c), (upI (upI I 82 n x) 83 n (I 79 7)), J, 0, 0)
    refine r_vret okX6_openLine rfl rfl (Nat.le_refl _) (Nat.le_refl _) ?_
    exact ⟨rfl, rfl, rfl, rfl⟩
theorem o_openWhen79 (γ : GE) {b c : Bool} {I : AI} {J : AJ} {n : Nat} (hn : n < 16) (en : I 79 8 = nI n) : Ct γ mX6_openWhen 0 0 0 [.ref 79] (SS b c) I J (rV (SS b c) (upI I 84 n (I 79 7)) J) := by
  have cn : (nI n).toNatClampNeg = n := nI_clamp (by omega)
  refine ct_of okX6_openWhen (L := [some (.ref 79)]) (Nat.le_of_ble_eq_true rfl) rfl ?_
  refine r_run okX6_openWhen 3 (cs := []) (σ' := (6, [some (.ref 79)], [.int 16, .int (I 79 8)], (SS b c), I, J, 0, 0)) rfl trivial ?_
  simp only [en]
  show Rj _ _ _ _ _ _ (6, [some (.ref 79)], [.int 16, .int (nI n)], (SS b c), I, J, 0, 0)
  refine r_icmp okX6_openWhen rfl (fun (h6 : (16 : Int32) ≤ (nI n)) => ?_) (fun (h6 : ¬ (16 : Int32) ≤ (nI n)) => ?_)
  · exact absurd h6 (nI_ge (a := n) (b := 16) hn (by decide))
  · refine r_run okX6_openWhen 7 (cs := [vp_in (I 79 8) 16]) (σ' := (22, [some (.ref 79)], [], (SS b c), (upI I 84 ((I 79 8).toNatClampNeg) (I 79 7)), J, 0, 0)) rfl ⟨(by rw [en]; exact vin hn (by decide)), trivial⟩ ?_
    simp only [en, cn]
    show Rj _ _ _ _ _ _ (22, [some (.ref 79)], [], (SS b c), (upI I 84 n (I 79 7)), J, 0, 0)
    refine r_vret okX6_openWhen rfl rfl (Nat.le_refl _) (Nat.le_refl _) ?_
    exact ⟨rfl, rfl, rfl, rfl⟩
theorem o_closeLine79 (γ : GE) {b c : Bool} {I : AI} {J : AJ} {n : Nat} (hn : n < 16) (en : I 79 8 = nI n) : Ct γ mX6_closeLine 0 0 0 [.ref 79] (SS b c) I J (rV (SS b c) (upI (upI I 85 n (I 79 7)) 79 8 (nI n + 1)) J) := by
  have cn : (nI n).toNatClampNeg = n := nI_clamp (by omega)
  refine ct_of okX6_closeLine (L := [some (.ref 79)]) (Nat.le_of_ble_eq_true rfl) rfl ?_
  refine r_run okX6_closeLine 3 (cs := []) (σ' := (6, [some (.ref 79)], [.int 16, .int (I 79 8)], (SS b c), I, J, 0, 0)) rfl trivial ?_
  simp only [en]
  show Rj _ _ _ _ _ _ (6, [some (.ref 79)], [.int 16, .int (nI n)], (SS b c), I, J, 0, 0)
  refine r_icmp okX6_closeLine rfl (fun (h6 : (16 : Int32) ≤ (nI n)) => ?_) (fun (h6 : ¬ (16 : Int32) ≤ (nI n)) => ?_)
  · exact absurd h6 (nI_ge (a := n) (b := 16) hn (by decide))
  · refine r_run okX6_closeLine 13 (cs := [vp_in (I 79 8) 16]) (σ' := (32, [some (.ref 79)], [], (SS b c), (upI (upI I 85 ((I 79 8).toNatClampNeg) (I 79 7)) 79 8 ((I 79 8) + 1)), J, 0, 0)) rfl ⟨(by rw [en]; exact vin hn (by decide)), trivial⟩ ?_
    simp only [en, cn]
    show Rj _ _ _ _ _ _ (32, [some (.ref 79)], [], (SS b c), (upI (upI I 85 n (I 79 7)) 79 8 ((nI n) + 1)), J, 0, 0)
    refine r_vret okX6_closeLine rfl rfl (Nat.le_refl _) (Nat.le_refl _) ?_
    exact ⟨rfl, rfl, rfl, rfl⟩
theorem lp_ft79 (γ : GE) {b c : Bool} {I : AI} {J : AJ} {ls : List Ln} (hR : ORul I 79 ls) {h : Nat → Int32} (hh : ∀ q, q < 9 → I 76 q = h q) : ∀ (l : List Ln) (k : Nat) (g : Nat → Int32), k + l.length = ls.length → ls.drop k = l → lnN h ls 0 = lnN h l k → Rj γ mX6_firstTrue 2 0 0 (fun rt S' I' J' => some (.int (bsI (lnN h ls 0))) = rt ∧ (SS b c) = S' ∧ (∃ g, I' = sQ 86 I g) ∧ J = J') (2, [some (.ref 79), some (.ref 76), some (.int (nI k))], [], (SS b c), (sQ 86 I g), J, 0, 0) := by
  have h16 := hR.1
  intro l
  induction l with
  | nil =>
    intro k g hk hd hN
    have hk : k = ls.length := hk
    refine r_run okX6_firstTrue 3 (cs := []) (σ' := (7, [some (.ref 79), some (.ref 76), some (.int (nI k))], [.int (I 79 8), .int (nI k)], (SS b c), (sQ 86 I g), J, 0, 0)) rfl trivial ?_
    simp only [hR.2.1]
    show Rj _ _ _ _ _ _ (7, [some (.ref 79), some (.ref 76), some (.int (nI k))], [.int (nI ls.length), .int (nI k)], (SS b c), (sQ 86 I g), J, 0, 0)
    refine r_icmp okX6_firstTrue rfl (fun (h7 : (nI ls.length) ≤ (nI k)) => ?_) (fun (h7 : ¬ (nI ls.length) ≤ (nI k)) => ?_)
    · refine r_run okX6_firstTrue 1 (cs := []) (σ' := (39, [some (.ref 79), some (.ref 76), some (.int (nI k))], [.int (-1)], (SS b c), (sQ 86 I g), J, 0, 0)) rfl trivial ?_
      refine r_iret okX6_firstTrue rfl rfl rfl (Nat.le_refl _) (Nat.le_refl _) ?_
      rw [hN]
      exact ⟨rfl, rfl, ⟨g, rfl⟩, rfl⟩
    · exact absurd (nI_le (by omega) (by omega)) h7
  | cons q l ih =>
    intro k g hk hd hN
    rw [List.length_cons] at hk
    have hq : ls[k]? = some q := by
      have := congrArg (fun z => z[0]?) hd
      simp only [List.getElem?_drop, Nat.add_zero, List.getElem?_cons_zero] at this
      exact this
    obtain ⟨⟨f, w, e, a1, a2, a3, a4, a5, a6, a7, a8, a9⟩, hl⟩ := hR.2.2 k q hq
    have ck : (nI k).toNatClampNeg = k := nI_clamp (by omega)
    refine r_run okX6_firstTrue 3 (cs := []) (σ' := (7, [some (.ref 79), some (.ref 76), some (.int (nI k))], [.int (I 79 8), .int (nI k)], (SS b c), (sQ 86 I g), J, 0, 0)) rfl trivial ?_
    simp only [hR.2.1]
    show Rj _ _ _ _ _ _ (7, [some (.ref 79), some (.ref 76), some (.int (nI k))], [.int (nI ls.length), .int (nI k)], (SS b c), (sQ 86 I g), J, 0, 0)
    refine r_icmp okX6_firstTrue rfl (fun (h7 : (nI ls.length) ≤ (nI k)) => ?_) (fun (h7 : ¬ (nI ls.length) ≤ (nI k)) => ?_)
    · exact absurd h7 (nI_ge (by omega) (by omega))
    · refine r_run okX6_firstTrue 10 (cs := [vp_in (nI k) 16, vp_in (nI k) 16]) (σ' := (24, [some (.ref 79), some (.ref 76), some (.int (nI k))], [.ref 76, .int (I 85 ((nI k).toNatClampNeg)), .int (I 84 ((nI k).toNatClampNeg)), .ref 79], (SS b c), (sQ 86 I g), J, 0, 0)) rfl ⟨(vin (by omega) (by decide)), (vin (by omega) (by decide)), trivial⟩ ?_
      simp only [ck, a6, a7]
      show Rj _ _ _ _ _ _ (24, [some (.ref 79), some (.ref 76), some (.int (nI k))], [.ref 76, .int (nI e), .int (nI w), .ref 79], (SS b c), (sQ 86 I g), J, 0, 0)
      refine r_callV okX6_firstTrue okX6_reckon [.int (nI w), .int (nI e), .ref 76] [] 79 rfl rfl rfl kkX6_reckon rfl rfl (by decide) rfl rfl rfl (by decide) ⟨Nat.le_refl _, Nat.le_refl _⟩ (Nat.le_of_ble_eq_true rfl) (o_reckon79 γ (I := sQ 86 I g) h hh (valC h q.2.2) true (e := e) (k := w) a3 q.2.2 a2 (cdT_k (I := I) (I' := sQ 86 I g) rfl rfl a9) hl.2.2 (tyCd_val hl.2.2).1) (fun v1 S1 I1 J1 hp => ?_)
      obtain ⟨rfl, rfl, ⟨g2, rfl⟩, rfl⟩ := hp
      rw [sQ_2]
      show Rj _ _ _ _ _ _ (27, [some (.ref 79), some (.ref 76), some (.int (nI k))], [.int (valC h q.2.2)], (SS b c), (sQ 86 I g2), J, 0, 0)
      refine r_ifc okX6_firstTrue rfl (fun (h27 : (valC h q.2.2) = (0 : Int32)) => ?_) (fun (h27 : ¬ (valC h q.2.2) = (0 : Int32)) => ?_)
      · refine r_run okX6_firstTrue 2 (cs := []) (σ' := (2, [some (.ref 79), some (.ref 76), some (.int ((nI k) + 1))], [], (SS b c), (sQ 86 I g2), J, 0, 0)) rfl trivial ?_
        rw [nI_eq1]
        refine ih (k + 1) g2 (by omega) (by rw [← List.drop_drop, hd]; rfl) ?_
        rw [hN, lnN, if_pos h27]
      · refine r_run okX6_firstTrue 1 (cs := []) (σ' := (31, [some (.ref 79), some (.ref 76), some (.int (nI k))], [.int (nI k)], (SS b c), (sQ 86 I g2), J, 0, 0)) rfl trivial ?_
        refine r_iret okX6_firstTrue rfl rfl rfl (Nat.le_refl _) (Nat.le_refl _) ?_
        rw [hN, lnN, if_neg h27]
        exact ⟨rfl, rfl, ⟨g2, rfl⟩, rfl⟩
theorem o_firstTrue79 (γ : GE) {b c : Bool} {I : AI} {J : AJ} {ls : List Ln} (hR : ORul I 79 ls) {h : Nat → Int32} (hh : ∀ q, q < 9 → I 76 q = h q) : Ct γ mX6_firstTrue 2 0 0 [.ref 79, .ref 76] (SS b c) I J (fun rt S' I' J' => some (.int (bsI (lnN h ls 0))) = rt ∧ (SS b c) = S' ∧ (∃ g, I' = sQ 86 I g) ∧ J = J') := by
  refine ct_of okX6_firstTrue (L := [some (.ref 79), some (.ref 76), none]) (Nat.le_of_ble_eq_true rfl) rfl ?_
  refine r_run okX6_firstTrue 2 (cs := []) (σ' := (2, [some (.ref 79), some (.ref 76), some (.int 0)], [], (SS b c), I, J, 0, 0)) rfl trivial ?_
  have hm := lp_ft79 γ (J := J) (b := b) (c := c) hR hh ls 0 (I 86) (by omega) rfl rfl
  rw [sQ_self] at hm
  exact hm
theorem o_deedN79 (γ : GE) {b c : Bool} {I : AI} {J : AJ} {ls : List Ln} (hR : ORul I 79 ls) : Ct γ mX6_deed 0 0 0 [.ref 79, .int (-1)] (SS b c) I J (rI 2 (SS b c) I J) := by
  refine ct_of okX6_deed (L := [some (.ref 79), some (.int (-1))]) (Nat.le_of_ble_eq_true rfl) rfl ?_
  refine r_run okX6_deed 1 (cs := []) (σ' := (1, [some (.ref 79), some (.int (-1))], [.int (-1)], (SS b c), I, J, 0, 0)) rfl trivial ?_
  refine r_ifc okX6_deed rfl (fun (h1 : ((-1) : Int32) < (0 : Int32)) => ?_) (fun (h1 : ¬ ((-1) : Int32) < (0 : Int32)) => ?_)
  · refine r_run okX6_deed 1 (cs := []) (σ' := (22, [some (.ref 79), some (.int (-1))], [.int 2], (SS b c), I, J, 0, 0)) rfl trivial ?_
    refine r_iret okX6_deed rfl rfl rfl (Nat.le_refl _) (Nat.le_refl _) ?_
    exact ⟨rfl, rfl, rfl, rfl⟩
  · exact absurd h1 (by decide)
theorem o_deed79 (γ : GE) {b c : Bool} {I : AI} {J : AJ} {ls : List Ln} (hR : ORul I 79 ls) {k : Nat} {q : Ln} (hq : ls[k]? = some q) : Ct γ mX6_deed 0 0 0 [.ref 79, .int (nI k)] (SS b c) I J (rI q.1 (SS b c) I J) := by
  have h16 := hR.1
  have hk := (List.getElem?_eq_some_iff.mp hq).1
  obtain ⟨⟨f, w, e, a1, a2, a3, a4, a5, a6, a7, a8, a9⟩, hl⟩ := hR.2.2 k q hq
  have ck : (nI k).toNatClampNeg = k := nI_clamp (by omega)
  refine ct_of okX6_deed (L := [some (.ref 79), some (.int (nI k))]) (Nat.le_of_ble_eq_true rfl) rfl ?_
  refine r_run okX6_deed 1 (cs := []) (σ' := (1, [some (.ref 79), some (.int (nI k))], [.int (nI k)], (SS b c), I, J, 0, 0)) rfl trivial ?_
  refine r_ifc okX6_deed rfl (fun (h1 : (nI k) < (0 : Int32)) => ?_) (fun (h1 : ¬ (nI k) < (0 : Int32)) => ?_)
  · exact absurd h1 (nI_pos (by omega))
  · refine r_run okX6_deed 3 (cs := []) (σ' := (9, [some (.ref 79), some (.int (nI k))], [.int (I 79 8), .int (nI k)], (SS b c), I, J, 0, 0)) rfl trivial ?_
    simp only [hR.2.1]
    show Rj _ _ _ _ _ _ (9, [some (.ref 79), some (.int (nI k))], [.int (nI ls.length), .int (nI k)], (SS b c), I, J, 0, 0)
    refine r_icmp okX6_deed rfl (fun (h9 : (nI ls.length) ≤ (nI k)) => ?_) (fun (h9 : ¬ (nI ls.length) ≤ (nI k)) => ?_)
    · exact absurd h9 (nI_ge (by omega) (by omega))
    · refine r_run okX6_deed 5 (cs := [vp_in (nI k) 16]) (σ' := (22, [some (.ref 79), some (.int (nI k))], [.int (I 82 ((nI k).toNatClampNeg))], (SS b c), I, J, 0, 0)) rfl ⟨(vin (by omega) (by decide)), trivial⟩ ?_
      simp only [ck, a4]
      show Rj _ _ _ _ _ _ (22, [some (.ref 79), some (.int (nI k))], [.int q.1], (SS b c), I, J, 0, 0)
      refine r_iret okX6_deed rfl rfl rfl (Nat.le_refl _) (Nat.le_refl _) ?_
      exact ⟨rfl, rfl, rfl, rfl⟩
theorem o_span79 (γ : GE) {b c : Bool} {I : AI} {J : AJ} {ls : List Ln} (hR : ORul I 79 ls) {h : Nat → Int32} (hh : ∀ q, q < 9 → I 76 q = h q) {k : Nat} {q : Ln} (hq : ls[k]? = some q) (h0 : q.1 = 0) : Ct γ mX6_span 2 0 0 [.ref 79, .int (nI k), .ref 76] (SS b c) I J (fun rt S' I' J' => some (.int (spnV h q.2.1)) = rt ∧ (SS b c) = S' ∧ (∃ g, I' = sQ 86 I g) ∧ J = J') := by
  have h16 := hR.1
  have hk := (List.getElem?_eq_some_iff.mp hq).1
  obtain ⟨⟨f, w, e, a1, a2, a3, a4, a5, a6, a7, a8, a9⟩, hl⟩ := hR.2.2 k q hq
  have ck : (nI k).toNatClampNeg = k := nI_clamp (by omega)
  refine ct_of okX6_span (L := [some (.ref 79), some (.int (nI k)), some (.ref 76)]) (Nat.le_of_ble_eq_true rfl) rfl ?_
  refine r_run okX6_span 1 (cs := []) (σ' := (1, [some (.ref 79), some (.int (nI k)), some (.ref 76)], [.int (nI k)], (SS b c), I, J, 0, 0)) rfl trivial ?_
  refine r_ifc okX6_span rfl (fun (h1 : (nI k) < (0 : Int32)) => ?_) (fun (h1 : ¬ (nI k) < (0 : Int32)) => ?_)
  · exact absurd h1 (nI_pos (by omega))
  · refine r_run okX6_span 3 (cs := []) (σ' := (9, [some (.ref 79), some (.int (nI k)), some (.ref 76)], [.int (I 79 8), .int (nI k)], (SS b c), I, J, 0, 0)) rfl trivial ?_
    simp only [hR.2.1]
    show Rj _ _ _ _ _ _ (9, [some (.ref 79), some (.int (nI k)), some (.ref 76)], [.int (nI ls.length), .int (nI k)], (SS b c), I, J, 0, 0)
    refine r_icmp okX6_span rfl (fun (h9 : (nI k) < (nI ls.length)) => ?_) (fun (h9 : ¬ (nI k) < (nI ls.length)) => ?_)
    · refine r_run okX6_span 12 (cs := [vp_in (nI k) 16, vp_in (nI k) 16]) (σ' := (31, [some (.ref 79), some (.int (nI k)), some (.ref 76)], [.ref 76, .int (I 84 ((nI k).toNatClampNeg)), .int (I 83 ((nI k).toNatClampNeg)), .ref 79, .int 60, .int 1], (SS b c), I, J, 0, 0)) rfl ⟨(vin (by omega) (by decide)), (vin (by omega) (by decide)), trivial⟩ ?_
      simp only [ck, a5, a6]
      show Rj _ _ _ _ _ _ (31, [some (.ref 79), some (.int (nI k)), some (.ref 76)], [.ref 76, .int (nI w), .int (nI f), .ref 79, .int 60, .int 1], (SS b c), I, J, 0, 0)
      refine r_callV okX6_span okX6_reckon [.int (nI f), .int (nI w), .ref 76] [.int 60, .int 1] 79 rfl rfl rfl kkX6_reckon rfl rfl (by decide) rfl rfl rfl (by decide) ⟨Nat.le_refl _, Nat.le_refl _⟩ (Nat.le_of_ble_eq_true rfl) (o_reckon79 γ (I := I) h hh (valC h q.2.1) false (e := w) (k := f) (by omega) q.2.1 a1 a8 (hl.2.1 h0) (tyCd_val (hl.2.1 h0)).1) (fun v1 S1 I1 J1 hp => ?_)
      obtain ⟨rfl, rfl, ⟨g2, rfl⟩, rfl⟩ := hp
      show Rj _ _ _ _ _ _ (34, [some (.ref 79), some (.int (nI k)), some (.ref 76)], [.int (valC h q.2.1), .int 60, .int 1], (SS b c), (sQ 86 I g2), J, 0, 0)
      refine r_mmin okX6_span rfl rfl ⟨Nat.le_refl _, Nat.le_refl _⟩ (Nat.le_of_ble_eq_true rfl) ?_
      show Rj _ _ _ _ _ _ (37, [some (.ref 79), some (.int (nI k)), some (.ref 76)], [.int (if (valC h q.2.1) < 60 then (valC h q.2.1) else 60), .int 1], (SS b c), (sQ 86 I g2), J, 0, 0)
      refine r_mmax okX6_span rfl rfl ⟨Nat.le_refl _, Nat.le_refl _⟩ (Nat.le_of_ble_eq_true rfl) ?_
      show Rj _ _ _ _ _ _ (40, [some (.ref 79), some (.int (nI k)), some (.ref 76)], [.int (if 1 < (if (valC h q.2.1) < 60 then (valC h q.2.1) else 60) then (if (valC h q.2.1) < 60 then (valC h q.2.1) else 60) else 1)], (SS b c), (sQ 86 I g2), J, 0, 0)
      refine r_iret okX6_span rfl rfl rfl (Nat.le_refl _) (Nat.le_refl _) ?_
      exact ⟨rfl, rfl, ⟨g2, rfl⟩, rfl⟩
    · exact absurd (nI_lt (by omega) (by omega)) h9
theorem o_rsize87 (γ : GE) {b c : Bool} {I : AI} {J : AJ} : Ct γ mX6_size 0 0 0 [.ref 87] (SS b c) I J (rI (I 87 8) (SS b c) I J) := by
  refine ct_of okX6_size (L := [some (.ref 87)]) (Nat.le_of_ble_eq_true rfl) rfl ?_
  refine r_run okX6_size 2 (cs := []) (σ' := (4, [some (.ref 87)], [.int (I 87 8)], (SS b c), I, J, 0, 0)) rfl trivial ?_
  refine r_iret okX6_size rfl rfl rfl (Nat.le_refl _) (Nat.le_refl _) ?_
  exact ⟨rfl, rfl, rfl, rfl⟩
theorem o_rclear87 (γ : GE) {b c : Bool} {I : AI} {J : AJ} : Ct γ mX6_clear 0 0 0 [.ref 87] (SS b c) I J (rV (SS b c) (upI (upI I 87 7 0) 87 8 0) J) := by
  refine ct_of okX6_clear (L := [some (.ref 87)]) (Nat.le_of_ble_eq_true rfl) rfl ?_
  refine r_run okX6_clear 6 (cs := []) (σ' := (10, [some (.ref 87)], [], (SS b c), (upI (upI I 87 7 0) 87 8 0), J, 0, 0)) rfl trivial ?_
  refine r_vret okX6_clear rfl rfl (Nat.le_refl _) (Nat.le_refl _) ?_
  exact ⟨rfl, rfl, rfl, rfl⟩
theorem o_radd87 (γ : GE) {b c : Bool} {I : AI} {J : AJ} {n : Nat} (hn : n < 800) (en : I 87 7 = nI n) (x y : Int32) : Ct γ mX6_add 0 0 0 [.ref 87, .int x, .int y] (SS b c) I J (rI 1 (SS b c) (upI (upI (upI I 88 n x) 89 n y) 87 7 (nI n + 1)) J) := by
  have cn : (nI n).toNatClampNeg = n := nI_clamp (by omega)
  refine ct_of okX6_add (L := [some (.ref 87), some (.int x), some (.int y)]) (Nat.le_of_ble_eq_true rfl) rfl ?_
  refine r_run okX6_add 3 (cs := []) (σ' := (7, [some (.ref 87), some (.int x), some (.int y)], [.int 800, .int (I 87 7)], (SS b c), I, J, 0, 0)) rfl trivial ?_
  simp only [en]
  show Rj _ _ _ _ _ _ (7, [some (.ref 87), some (.int x), some (.int y)], [.int 800, .int (nI n)], (SS b c), I, J, 0, 0)
  refine r_icmp okX6_add rfl (fun (h7 : (nI n) < (800 : Int32)) => ?_) (fun (h7 : ¬ (nI n) < (800 : Int32)) => ?_)
  · refine r_run okX6_add 19 (cs := [vp_in (I 87 7) 800, vp_in (I 87 7) 800]) (σ' := (43, [some (.ref 87), some (.int x), some (.int y)], [.int 1], (SS b c), (upI (upI (upI I 88 ((I 87 7).toNatClampNeg) x) 89 ((I 87 7).toNatClampNeg) y) 87 7 ((I 87 7) + 1)), J, 0, 0)) rfl ⟨(by rw [en]; exact vin hn (by decide)), (by rw [en]; exact vin hn (by decide)), trivial⟩ ?_
    simp only [en, cn]
    show Rj _ _ _ _ _ _ (43, [some (.ref 87), some (.int x), some (.int y)], [.int 1], (SS b c), (upI (upI (upI I 88 n x) 89 n y) 87 7 ((nI n) + 1)), J, 0, 0)
    refine r_iret okX6_add rfl rfl (by decide +kernel) (Nat.le_refl _) (Nat.le_refl _) ?_
    exact ⟨rfl, rfl, rfl, rfl⟩
  · exact absurd (nI_lt (a := n) (b := 800) hn (by decide)) h7
theorem o_openLine87 (γ : GE) {b c : Bool} {I : AI} {J : AJ} {n : Nat} (hn : n < 16) (en : I 87 8 = nI n) (x : Int32) : Ct γ mX6_openLine 0 0 0 [.ref 87, .int x] (SS b c) I J (rV (SS b c) (upI (upI I 90 n x) 91 n (I 87 7)) J) := by
  have cn : (nI n).toNatClampNeg = n := nI_clamp (by omega)
  refine ct_of okX6_openLine (L := [some (.ref 87), some (.int x)]) (Nat.le_of_ble_eq_true rfl) rfl ?_
  refine r_run okX6_openLine 3 (cs := []) (σ' := (6, [some (.ref 87), some (.int x)], [.int 16, .int (I 87 8)], (SS b c), I, J, 0, 0)) rfl trivial ?_
  simp only [en]
  show Rj _ _ _ _ _ _ (6, [some (.ref 87), some (.int x)], [.int 16, .int (nI n)], (SS b c), I, J, 0, 0)
  refine r_icmp okX6_openLine rfl (fun (h6 : (16 : Int32) ≤ (nI n)) => ?_) (fun (h6 : ¬ (16 : Int32) ≤ (nI n)) => ?_)
  · exact absurd h6 (nI_ge (a := n) (b := 16) hn (by decide))
  · refine r_run okX6_openLine 13 (cs := [vp_in (I 87 8) 16, vp_in (I 87 8) 16]) (σ' := (32, [some (.ref 87), some (.int x)], [], (SS b c), (upI (upI I 90 ((I 87 8).toNatClampNeg) x) 91 ((I 87 8).toNatClampNeg) (I 87 7)), J, 0, 0)) rfl ⟨(by rw [en]; exact vin hn (by decide)), (by rw [en]; exact vin hn (by decide)), trivial⟩ ?_
    simp only [en, cn]
    show Rj _ _ _ _ _ _ (32, [some (.ref 87), some (.int x)], [], (SS b c), (upI (upI I 90 n x) 91 n (I 87 7)), J, 0, 0)
    refine r_vret okX6_openLine rfl rfl (Nat.le_refl _) (Nat.le_refl _) ?_
    exact ⟨rfl, rfl, rfl, rfl⟩
theorem o_openWhen87 (γ : GE) {b c : Bool} {I : AI} {J : AJ} {n : Nat} (hn : n < 16) (en : I 87 8 = nI n) : Ct γ mX6_openWhen 0 0 0 [.ref 87] (SS b c) I J (rV (SS b c) (upI I 92 n (I 87 7)) J) := by
  have cn : (nI n).toNatClampNeg = n := nI_clamp (by omega)
  refine ct_of okX6_openWhen (L := [some (.ref 87)]) (Nat.le_of_ble_eq_true rfl) rfl ?_
  refine r_run okX6_openWhen 3 (cs := []) (σ' := (6, [some (.ref 87)], [.int 16, .int (I 87 8)], (SS b c), I, J, 0, 0)) rfl trivial ?_
  simp only [en]
  show Rj _ _ _ _ _ _ (6, [some (.ref 87)], [.int 16, .int (nI n)], (SS b c), I, J, 0, 0)
  refine r_icmp okX6_openWhen rfl (fun (h6 : (16 : Int32) ≤ (nI n)) => ?_) (fun (h6 : ¬ (16 : Int32) ≤ (nI n)) => ?_)
  · exact absurd h6 (nI_ge (a := n) (b := 16) hn (by decide))
  · refine r_run okX6_openWhen 7 (cs := [vp_in (I 87 8) 16]) (σ' := (22, [some (.ref 87)], [], (SS b c), (upI I 92 ((I 87 8).toNatClampNeg) (I 87 7)), J, 0, 0)) rfl ⟨(by rw [en]; exact vin hn (by decide)), trivial⟩ ?_
    simp only [en, cn]
    show Rj _ _ _ _ _ _ (22, [some (.ref 87)], [], (SS b c), (upI I 92 n (I 87 7)), J, 0, 0)
    refine r_vret okX6_openWhen rfl rfl (Nat.le_refl _) (Nat.le_refl _) ?_
    exact ⟨rfl, rfl, rfl, rfl⟩
theorem o_closeLine87 (γ : GE) {b c : Bool} {I : AI} {J : AJ} {n : Nat} (hn : n < 16) (en : I 87 8 = nI n) : Ct γ mX6_closeLine 0 0 0 [.ref 87] (SS b c) I J (rV (SS b c) (upI (upI I 93 n (I 87 7)) 87 8 (nI n + 1)) J) := by
  have cn : (nI n).toNatClampNeg = n := nI_clamp (by omega)
  refine ct_of okX6_closeLine (L := [some (.ref 87)]) (Nat.le_of_ble_eq_true rfl) rfl ?_
  refine r_run okX6_closeLine 3 (cs := []) (σ' := (6, [some (.ref 87)], [.int 16, .int (I 87 8)], (SS b c), I, J, 0, 0)) rfl trivial ?_
  simp only [en]
  show Rj _ _ _ _ _ _ (6, [some (.ref 87)], [.int 16, .int (nI n)], (SS b c), I, J, 0, 0)
  refine r_icmp okX6_closeLine rfl (fun (h6 : (16 : Int32) ≤ (nI n)) => ?_) (fun (h6 : ¬ (16 : Int32) ≤ (nI n)) => ?_)
  · exact absurd h6 (nI_ge (a := n) (b := 16) hn (by decide))
  · refine r_run okX6_closeLine 13 (cs := [vp_in (I 87 8) 16]) (σ' := (32, [some (.ref 87)], [], (SS b c), (upI (upI I 93 ((I 87 8).toNatClampNeg) (I 87 7)) 87 8 ((I 87 8) + 1)), J, 0, 0)) rfl ⟨(by rw [en]; exact vin hn (by decide)), trivial⟩ ?_
    simp only [en, cn]
    show Rj _ _ _ _ _ _ (32, [some (.ref 87)], [], (SS b c), (upI (upI I 93 n (I 87 7)) 87 8 ((nI n) + 1)), J, 0, 0)
    refine r_vret okX6_closeLine rfl rfl (Nat.le_refl _) (Nat.le_refl _) ?_
    exact ⟨rfl, rfl, rfl, rfl⟩
theorem lp_ft87 (γ : GE) {b c : Bool} {I : AI} {J : AJ} {ls : List Ln} (hR : ORul I 87 ls) {h : Nat → Int32} (hh : ∀ q, q < 9 → I 76 q = h q) : ∀ (l : List Ln) (k : Nat) (g : Nat → Int32), k + l.length = ls.length → ls.drop k = l → lnN h ls 0 = lnN h l k → Rj γ mX6_firstTrue 2 0 0 (fun rt S' I' J' => some (.int (bsI (lnN h ls 0))) = rt ∧ (SS b c) = S' ∧ (∃ g, I' = sQ 94 I g) ∧ J = J') (2, [some (.ref 87), some (.ref 76), some (.int (nI k))], [], (SS b c), (sQ 94 I g), J, 0, 0) := by
  have h16 := hR.1
  intro l
  induction l with
  | nil =>
    intro k g hk hd hN
    have hk : k = ls.length := hk
    refine r_run okX6_firstTrue 3 (cs := []) (σ' := (7, [some (.ref 87), some (.ref 76), some (.int (nI k))], [.int (I 87 8), .int (nI k)], (SS b c), (sQ 94 I g), J, 0, 0)) rfl trivial ?_
    simp only [hR.2.1]
    show Rj _ _ _ _ _ _ (7, [some (.ref 87), some (.ref 76), some (.int (nI k))], [.int (nI ls.length), .int (nI k)], (SS b c), (sQ 94 I g), J, 0, 0)
    refine r_icmp okX6_firstTrue rfl (fun (h7 : (nI ls.length) ≤ (nI k)) => ?_) (fun (h7 : ¬ (nI ls.length) ≤ (nI k)) => ?_)
    · refine r_run okX6_firstTrue 1 (cs := []) (σ' := (39, [some (.ref 87), some (.ref 76), some (.int (nI k))], [.int (-1)], (SS b c), (sQ 94 I g), J, 0, 0)) rfl trivial ?_
      refine r_iret okX6_firstTrue rfl rfl rfl (Nat.le_refl _) (Nat.le_refl _) ?_
      rw [hN]
      exact ⟨rfl, rfl, ⟨g, rfl⟩, rfl⟩
    · exact absurd (nI_le (by omega) (by omega)) h7
  | cons q l ih =>
    intro k g hk hd hN
    rw [List.length_cons] at hk
    have hq : ls[k]? = some q := by
      have := congrArg (fun z => z[0]?) hd
      simp only [List.getElem?_drop, Nat.add_zero, List.getElem?_cons_zero] at this
      exact this
    obtain ⟨⟨f, w, e, a1, a2, a3, a4, a5, a6, a7, a8, a9⟩, hl⟩ := hR.2.2 k q hq
    have ck : (nI k).toNatClampNeg = k := nI_clamp (by omega)
    refine r_run okX6_firstTrue 3 (cs := []) (σ' := (7, [some (.ref 87), some (.ref 76), some (.int (nI k))], [.int (I 87 8), .int (nI k)], (SS b c), (sQ 94 I g), J, 0, 0)) rfl trivial ?_
    simp only [hR.2.1]
    show Rj _ _ _ _ _ _ (7, [some (.ref 87), some (.ref 76), some (.int (nI k))], [.int (nI ls.length), .int (nI k)], (SS b c), (sQ 94 I g), J, 0, 0)
    refine r_icmp okX6_firstTrue rfl (fun (h7 : (nI ls.length) ≤ (nI k)) => ?_) (fun (h7 : ¬ (nI ls.length) ≤ (nI k)) => ?_)
    · exact absurd h7 (nI_ge (by omega) (by omega))
    · refine r_run okX6_firstTrue 10 (cs := [vp_in (nI k) 16, vp_in (nI k) 16]) (σ' := (24, [some (.ref 87), some (.ref 76), some (.int (nI k))], [.ref 76, .int (I 93 ((nI k).toNatClampNeg)), .int (I 92 ((nI k).toNatClampNeg)), .ref 87], (SS b c), (sQ 94 I g), J, 0, 0)) rfl ⟨(vin (by omega) (by decide)), (vin (by omega) (by decide)), trivial⟩ ?_
      simp only [ck, a6, a7]
      show Rj _ _ _ _ _ _ (24, [some (.ref 87), some (.ref 76), some (.int (nI k))], [.ref 76, .int (nI e), .int (nI w), .ref 87], (SS b c), (sQ 94 I g), J, 0, 0)
      refine r_callV okX6_firstTrue okX6_reckon [.int (nI w), .int (nI e), .ref 76] [] 87 rfl rfl rfl kkX6_reckon rfl rfl (by decide) rfl rfl rfl (by decide) ⟨Nat.le_refl _, Nat.le_refl _⟩ (Nat.le_of_ble_eq_true rfl) (o_reckon87 γ (I := sQ 94 I g) h hh (valC h q.2.2) true (e := e) (k := w) a3 q.2.2 a2 (cdT_k (I := I) (I' := sQ 94 I g) rfl rfl a9) hl.2.2 (tyCd_val hl.2.2).1) (fun v1 S1 I1 J1 hp => ?_)
      obtain ⟨rfl, rfl, ⟨g2, rfl⟩, rfl⟩ := hp
      rw [sQ_2]
      show Rj _ _ _ _ _ _ (27, [some (.ref 87), some (.ref 76), some (.int (nI k))], [.int (valC h q.2.2)], (SS b c), (sQ 94 I g2), J, 0, 0)
      refine r_ifc okX6_firstTrue rfl (fun (h27 : (valC h q.2.2) = (0 : Int32)) => ?_) (fun (h27 : ¬ (valC h q.2.2) = (0 : Int32)) => ?_)
      · refine r_run okX6_firstTrue 2 (cs := []) (σ' := (2, [some (.ref 87), some (.ref 76), some (.int ((nI k) + 1))], [], (SS b c), (sQ 94 I g2), J, 0, 0)) rfl trivial ?_
        rw [nI_eq1]
        refine ih (k + 1) g2 (by omega) (by rw [← List.drop_drop, hd]; rfl) ?_
        rw [hN, lnN, if_pos h27]
      · refine r_run okX6_firstTrue 1 (cs := []) (σ' := (31, [some (.ref 87), some (.ref 76), some (.int (nI k))], [.int (nI k)], (SS b c), (sQ 94 I g2), J, 0, 0)) rfl trivial ?_
        refine r_iret okX6_firstTrue rfl rfl rfl (Nat.le_refl _) (Nat.le_refl _) ?_
        rw [hN, lnN, if_neg h27]
        exact ⟨rfl, rfl, ⟨g2, rfl⟩, rfl⟩
theorem o_firstTrue87 (γ : GE) {b c : Bool} {I : AI} {J : AJ} {ls : List Ln} (hR : ORul I 87 ls) {h : Nat → Int32} (hh : ∀ q, q < 9 → I 76 q = h q) : Ct γ mX6_firstTrue 2 0 0 [.ref 87, .ref 76] (SS b c) I J (fun rt S' I' J' => some (.int (bsI (lnN h ls 0))) = rt ∧ (SS b c) = S' ∧ (∃ g, I' = sQ 94 I g) ∧ J = J') := by
  refine ct_of okX6_firstTrue (L := [some (.ref 87), some (.ref 76), none]) (Nat.le_of_ble_eq_true rfl) rfl ?_
  refine r_run okX6_firstTrue 2 (cs := []) (σ' := (2, [some (.ref 87), some (.ref 76), some (.int 0)], [], (SS b c), I, J, 0, 0)) rfl trivial ?_
  have hm := lp_ft87 γ (J := J) (b := b) (c := c) hR hh ls 0 (I 94) (by omega) rfl rfl
  rw [sQ_self] at hm
  exact hm
theorem o_deedN87 (γ : GE) {b c : Bool} {I : AI} {J : AJ} {ls : List Ln} (hR : ORul I 87 ls) : Ct γ mX6_deed 0 0 0 [.ref 87, .int (-1)] (SS b c) I J (rI 2 (SS b c) I J) := by
  refine ct_of okX6_deed (L := [some (.ref 87), some (.int (-1))]) (Nat.le_of_ble_eq_true rfl) rfl ?_
  refine r_run okX6_deed 1 (cs := []) (σ' := (1, [some (.ref 87), some (.int (-1))], [.int (-1)], (SS b c), I, J, 0, 0)) rfl trivial ?_
  refine r_ifc okX6_deed rfl (fun (h1 : ((-1) : Int32) < (0 : Int32)) => ?_) (fun (h1 : ¬ ((-1) : Int32) < (0 : Int32)) => ?_)
  · refine r_run okX6_deed 1 (cs := []) (σ' := (22, [some (.ref 87), some (.int (-1))], [.int 2], (SS b c), I, J, 0, 0)) rfl trivial ?_
    refine r_iret okX6_deed rfl rfl rfl (Nat.le_refl _) (Nat.le_refl _) ?_
    exact ⟨rfl, rfl, rfl, rfl⟩
  · exact absurd h1 (by decide)
theorem o_deed87 (γ : GE) {b c : Bool} {I : AI} {J : AJ} {ls : List Ln} (hR : ORul I 87 ls) {k : Nat} {q : Ln} (hq : ls[k]? = some q) : Ct γ mX6_deed 0 0 0 [.ref 87, .int (nI k)] (SS b c) I J (rI q.1 (SS b c) I J) := by
  have h16 := hR.1
  have hk := (List.getElem?_eq_some_iff.mp hq).1
  obtain ⟨⟨f, w, e, a1, a2, a3, a4, a5, a6, a7, a8, a9⟩, hl⟩ := hR.2.2 k q hq
  have ck : (nI k).toNatClampNeg = k := nI_clamp (by omega)
  refine ct_of okX6_deed (L := [some (.ref 87), some (.int (nI k))]) (Nat.le_of_ble_eq_true rfl) rfl ?_
  refine r_run okX6_deed 1 (cs := []) (σ' := (1, [some (.ref 87), some (.int (nI k))], [.int (nI k)], (SS b c), I, J, 0, 0)) rfl trivial ?_
  refine r_ifc okX6_deed rfl (fun (h1 : (nI k) < (0 : Int32)) => ?_) (fun (h1 : ¬ (nI k) < (0 : Int32)) => ?_)
  · exact absurd h1 (nI_pos (by omega))
  · refine r_run okX6_deed 3 (cs := []) (σ' := (9, [some (.ref 87), some (.int (nI k))], [.int (I 87 8), .int (nI k)], (SS b c), I, J, 0, 0)) rfl trivial ?_
    simp only [hR.2.1]
    show Rj _ _ _ _ _ _ (9, [some (.ref 87), some (.int (nI k))], [.int (nI ls.length), .int (nI k)], (SS b c), I, J, 0, 0)
    refine r_icmp okX6_deed rfl (fun (h9 : (nI ls.length) ≤ (nI k)) => ?_) (fun (h9 : ¬ (nI ls.length) ≤ (nI k)) => ?_)
    · exact absurd h9 (nI_ge (by omega) (by omega))
    · refine r_run okX6_deed 5 (cs := [vp_in (nI k) 16]) (σ' := (22, [some (.ref 87), some (.int (nI k))], [.int (I 90 ((nI k).toNatClampNeg))], (SS b c), I, J, 0, 0)) rfl ⟨(vin (by omega) (by decide)), trivial⟩ ?_
      simp only [ck, a4]
      show Rj _ _ _ _ _ _ (22, [some (.ref 87), some (.int (nI k))], [.int q.1], (SS b c), I, J, 0, 0)
      refine r_iret okX6_deed rfl rfl rfl (Nat.le_refl _) (Nat.le_refl _) ?_
      exact ⟨rfl, rfl, rfl, rfl⟩
theorem o_span87 (γ : GE) {b c : Bool} {I : AI} {J : AJ} {ls : List Ln} (hR : ORul I 87 ls) {h : Nat → Int32} (hh : ∀ q, q < 9 → I 76 q = h q) {k : Nat} {q : Ln} (hq : ls[k]? = some q) (h0 : q.1 = 0) : Ct γ mX6_span 2 0 0 [.ref 87, .int (nI k), .ref 76] (SS b c) I J (fun rt S' I' J' => some (.int (spnV h q.2.1)) = rt ∧ (SS b c) = S' ∧ (∃ g, I' = sQ 94 I g) ∧ J = J') := by
  have h16 := hR.1
  have hk := (List.getElem?_eq_some_iff.mp hq).1
  obtain ⟨⟨f, w, e, a1, a2, a3, a4, a5, a6, a7, a8, a9⟩, hl⟩ := hR.2.2 k q hq
  have ck : (nI k).toNatClampNeg = k := nI_clamp (by omega)
  refine ct_of okX6_span (L := [some (.ref 87), some (.int (nI k)), some (.ref 76)]) (Nat.le_of_ble_eq_true rfl) rfl ?_
  refine r_run okX6_span 1 (cs := []) (σ' := (1, [some (.ref 87), some (.int (nI k)), some (.ref 76)], [.int (nI k)], (SS b c), I, J, 0, 0)) rfl trivial ?_
  refine r_ifc okX6_span rfl (fun (h1 : (nI k) < (0 : Int32)) => ?_) (fun (h1 : ¬ (nI k) < (0 : Int32)) => ?_)
  · exact absurd h1 (nI_pos (by omega))
  · refine r_run okX6_span 3 (cs := []) (σ' := (9, [some (.ref 87), some (.int (nI k)), some (.ref 76)], [.int (I 87 8), .int (nI k)], (SS b c), I, J, 0, 0)) rfl trivial ?_
    simp only [hR.2.1]
    show Rj _ _ _ _ _ _ (9, [some (.ref 87), some (.int (nI k)), some (.ref 76)], [.int (nI ls.length), .int (nI k)], (SS b c), I, J, 0, 0)
    refine r_icmp okX6_span rfl (fun (h9 : (nI k) < (nI ls.length)) => ?_) (fun (h9 : ¬ (nI k) < (nI ls.length)) => ?_)
    · refine r_run okX6_span 12 (cs := [vp_in (nI k) 16, vp_in (nI k) 16]) (σ' := (31, [some (.ref 87), some (.int (nI k)), some (.ref 76)], [.ref 76, .int (I 92 ((nI k).toNatClampNeg)), .int (I 91 ((nI k).toNatClampNeg)), .ref 87, .int 60, .int 1], (SS b c), I, J, 0, 0)) rfl ⟨(vin (by omega) (by decide)), (vin (by omega) (by decide)), trivial⟩ ?_
      simp only [ck, a5, a6]
      show Rj _ _ _ _ _ _ (31, [some (.ref 87), some (.int (nI k)), some (.ref 76)], [.ref 76, .int (nI w), .int (nI f), .ref 87, .int 60, .int 1], (SS b c), I, J, 0, 0)
      refine r_callV okX6_span okX6_reckon [.int (nI f), .int (nI w), .ref 76] [.int 60, .int 1] 87 rfl rfl rfl kkX6_reckon rfl rfl (by decide) rfl rfl rfl (by decide) ⟨Nat.le_refl _, Nat.le_refl _⟩ (Nat.le_of_ble_eq_true rfl) (o_reckon87 γ (I := I) h hh (valC h q.2.1) false (e := w) (k := f) (by omega) q.2.1 a1 a8 (hl.2.1 h0) (tyCd_val (hl.2.1 h0)).1) (fun v1 S1 I1 J1 hp => ?_)
      obtain ⟨rfl, rfl, ⟨g2, rfl⟩, rfl⟩ := hp
      show Rj _ _ _ _ _ _ (34, [some (.ref 87), some (.int (nI k)), some (.ref 76)], [.int (valC h q.2.1), .int 60, .int 1], (SS b c), (sQ 94 I g2), J, 0, 0)
      refine r_mmin okX6_span rfl rfl ⟨Nat.le_refl _, Nat.le_refl _⟩ (Nat.le_of_ble_eq_true rfl) ?_
      show Rj _ _ _ _ _ _ (37, [some (.ref 87), some (.int (nI k)), some (.ref 76)], [.int (if (valC h q.2.1) < 60 then (valC h q.2.1) else 60), .int 1], (SS b c), (sQ 94 I g2), J, 0, 0)
      refine r_mmax okX6_span rfl rfl ⟨Nat.le_refl _, Nat.le_refl _⟩ (Nat.le_of_ble_eq_true rfl) ?_
      show Rj _ _ _ _ _ _ (40, [some (.ref 87), some (.int (nI k)), some (.ref 76)], [.int (if 1 < (if (valC h q.2.1) < 60 then (valC h q.2.1) else 60) then (if (valC h q.2.1) < 60 then (valC h q.2.1) else 60) else 1)], (SS b c), (sQ 94 I g2), J, 0, 0)
      refine r_iret okX6_span rfl rfl rfl (Nat.le_refl _) (Nat.le_refl _) ?_
      exact ⟨rfl, rfl, ⟨g2, rfl⟩, rfl⟩
    · exact absurd (nI_lt (by omega) (by omega)) h9
