/-! ===== StormOffice: warn, lift, warning, look, truth, safe, post ===== -/
theorem o_issX (γ : GE) {b c : Bool} {I : AI} {J : AJ} (hN : ONow I) (hO : OWar I J) (hI : MWar I) (hD : WDis I) {Y : Int32} {k : Nat} (hk : k < 8) (eY : Y = nI k) (m : Int32) {f : Nat → Bool} (hs7 : cs J 7 f) : Ct γ mX10_issue 3 0 0 [.ref 52, .int Y, .int (I 0 15), .int m] (SS b c) I J (fun rt S' I' J' => some (.int (begV I Y)) = rt ∧ (SS b c) = S' ∧ IsP I J k m f I' J') := by
  subst eY; exact o_issue γ hO hI hD hk m hs7 hN.1
theorem o_warn (γ : GE) {b c : Bool} {I : AI} {J : AJ} (hN : ONow I) (hO : OWar I J) (hI : MWar I) (hD : WDis I) {f : Nat → Bool} (hs7 : cs J 7 f) (y m : Int32) : Ct γ mX11_warn 4 0 0 [.ref 0, .int y, .int m] (SS b c) I J (fun rt S' I' J' => some (.int (waV I y m)) = rt ∧ (SS b c) = S' ∧ (waB y m = true → IsP I J (nv y) m f I' J') ∧ (waB y m = false → I = I' ∧ J = J')) := by
  refine ct_of okX11_warn (L := [some (.ref 0), some (.int y), some (.int m)]) (Nat.le_of_ble_eq_true rfl) rfl ?_
  refine r_run okX11_warn 1 (cs := []) (σ' := (1, [some (.ref 0), some (.int y), some (.int m)], [.int y], (SS b c), I, J, 0, 0)) rfl trivial ?_
  refine r_callS okX11_warn okX11_isCounty [.int y] [] rfl rfl rfl kkX11_isCounty rfl rfl (by decide) (by decide) ⟨Nat.le_refl _, Nat.le_refl _⟩ (Nat.le_of_ble_eq_true rfl) (o_isCounty γ y) (fun v1 S1 I1 J1 hp => ?_)
  obtain ⟨rfl, rfl, rfl, rfl⟩ := hp
  show Rj _ _ _ _ _ _ (4, [some (.ref 0), some (.int y), some (.int m)], [.int (bi (ctyB y))], (SS b c), I, J, 0, 0)
  refine r_ifc okX11_warn rfl (fun (h4 : (bi (ctyB y)) = (0 : Int32)) => ?_) (fun (h4 : ¬ (bi (ctyB y)) = (0 : Int32)) => ?_)
  · have h4s := bi_0.mp h4
    refine r_run okX11_warn 1 (cs := []) (σ' := (18, [some (.ref 0), some (.int y), some (.int m)], [.int (-1)], (SS b c), I, J, 0, 0)) rfl trivial ?_
    refine r_iret okX11_warn rfl rfl rfl (Nat.le_refl _) (Nat.le_refl _) ?_
    have hb : waB y m = false := by unfold waB; rw [h4s]; rfl
    exact ⟨by unfold waV; rw [hb]; rfl, rfl, (fun q => absurd (hb.symm.trans q) (by decide)), fun _ => ⟨rfl, rfl⟩⟩
  · have h4s := bi_n0.mp h4
    refine r_run okX11_warn 3 (cs := []) (σ' := (11, [some (.ref 0), some (.int y), some (.int m)], [.int 60, .int 1, .int m], (SS b c), I, J, 0, 0)) rfl trivial ?_
    refine r_callS okX11_warn okX11_within [.int m, .int 1, .int 60] [] rfl rfl rfl kkX11_within rfl rfl (by decide) (by decide) ⟨Nat.le_refl _, Nat.le_refl _⟩ (Nat.le_of_ble_eq_true rfl) (o_win γ m 1 60) (fun v1 S1 I1 J1 hp => ?_)
    obtain ⟨rfl, rfl, rfl, rfl⟩ := hp
    show Rj _ _ _ _ _ _ (14, [some (.ref 0), some (.int y), some (.int m)], [.int (bi (inB m 1 60))], (SS b c), I, J, 0, 0)
    refine r_ifc okX11_warn rfl (fun (h14 : ¬ (bi (inB m 1 60)) = (0 : Int32)) => ?_) (fun h140 => ?_)
    · have h14s := bi_n0.mp h14
      refine r_run okX11_warn 6 (cs := []) (σ' := (29, [some (.ref 0), some (.int y), some (.int m)], [.int m, .int (I 0 15), .int y, .ref 52], (SS b c), I, J, 0, 0)) rfl trivial ?_
      refine r_callV okX11_warn okX10_issue [.int y, .int (I 0 15), .int m] [] 52 rfl rfl rfl kkX10_issue rfl rfl (by decide) rfl rfl rfl (by decide) ⟨Nat.le_refl _, Nat.le_refl _⟩ (Nat.le_of_ble_eq_true rfl) (o_issX γ hN hO hI hD (cty_lt h4s).1 (cty_lt h4s).2 m hs7) (fun v1 S1 I1 J1 hp => ?_)
      obtain ⟨rfl, rfl, hz⟩ := hp
      obtain ⟨Iz, eIz⟩ : ∃ z, z = I1 := ⟨_, rfl⟩
      subst eIz
      obtain ⟨Jz, eJz⟩ : ∃ z, z = J1 := ⟨_, rfl⟩
      subst eJz
      show Rj _ _ _ _ _ _ (32, [some (.ref 0), some (.int y), some (.int m)], [.int (begV I y)], (SS b c), Iz, Jz, 0, 0)
      refine r_iret okX11_warn rfl rfl rfl (Nat.le_refl _) (Nat.le_refl _) ?_
      have hb : waB y m = true := by unfold waB; rw [h4s, h14s]; rfl
      exact ⟨by unfold waV; rw [hb]; rfl, rfl, fun _ => hz, fun q => absurd (hb.symm.trans q) (by decide)⟩
    · have h14 : (bi (inB m 1 60)) = (0 : Int32) := Classical.not_not.mp h140
      have h14s := bi_0.mp h14
      refine r_run okX11_warn 1 (cs := []) (σ' := (18, [some (.ref 0), some (.int y), some (.int m)], [.int (-1)], (SS b c), I, J, 0, 0)) rfl trivial ?_
      refine r_iret okX11_warn rfl rfl rfl (Nat.le_refl _) (Nat.le_refl _) ?_
      have hb : waB y m = false := by unfold waB; rw [h4s, h14s]; rfl
      exact ⟨by unfold waV; rw [hb]; rfl, rfl, (fun q => absurd (hb.symm.trans q) (by decide)), fun _ => ⟨rfl, rfl⟩⟩
theorem o_stoX (γ : GE) {b c : Bool} {I : AI} {J : AJ} (hN : ONow I) (hO : OWar I J) (hI : MWar I) (hD : WDis I) {Y : Int32} {k : Nat} (hk : k < 8) (eY : Y = nI k) : Ct γ mX10_stop 1 0 0 [.ref 52, .int Y, .int (I 0 15)] (SS b c) I J (rI (bi (lifB I Y)) (SS b c) (stoI I Y) J) := by
  subst eY; exact o_stop γ hO hI hD hk hN.1
theorem o_lift (γ : GE) {b c : Bool} {I : AI} {J : AJ} (hN : ONow I) (hO : OWar I J) (hI : MWar I) (hD : WDis I) (y : Int32) : Ct γ mX11_lift 2 0 0 [.ref 0, .int y] (SS b c) I J (rI (bi (liB I y)) (SS b c) (if ctyB y then stoI I y else I) J) := by
  refine ct_of okX11_lift (L := [some (.ref 0), some (.int y)]) (Nat.le_of_ble_eq_true rfl) rfl ?_
  refine r_run okX11_lift 1 (cs := []) (σ' := (1, [some (.ref 0), some (.int y)], [.int y], (SS b c), I, J, 0, 0)) rfl trivial ?_
  refine r_callS okX11_lift okX11_isCounty [.int y] [] rfl rfl rfl kkX11_isCounty rfl rfl (by decide) (by decide) ⟨Nat.le_refl _, Nat.le_refl _⟩ (Nat.le_of_ble_eq_true rfl) (o_isCounty γ y) (fun v1 S1 I1 J1 hp => ?_)
  obtain ⟨rfl, rfl, rfl, rfl⟩ := hp
  show Rj _ _ _ _ _ _ (4, [some (.ref 0), some (.int y)], [.int (bi (ctyB y))], (SS b c), I, J, 0, 0)
  refine r_ifc okX11_lift rfl (fun (h4 : (bi (ctyB y)) = (0 : Int32)) => ?_) (fun (h4 : ¬ (bi (ctyB y)) = (0 : Int32)) => ?_)
  · have h4s := bi_0.mp h4
    refine r_run okX11_lift 1 (cs := []) (σ' := (27, [some (.ref 0), some (.int y)], [.int 0], (SS b c), I, J, 0, 0)) rfl trivial ?_
    refine r_iret okX11_lift rfl rfl (by decide +kernel) (Nat.le_refl _) (Nat.le_refl _) ?_
    exact ⟨by unfold liB; rw [h4s]; rfl, rfl, by rw [h4s]; rfl, rfl⟩
  · have h4s := bi_n0.mp h4
    refine r_run okX11_lift 5 (cs := []) (σ' := (16, [some (.ref 0), some (.int y)], [.int (I 0 15), .int y, .ref 52], (SS b c), I, J, 0, 0)) rfl trivial ?_
    refine r_callV okX11_lift okX10_stop [.int y, .int (I 0 15)] [] 52 rfl rfl rfl kkX10_stop rfl rfl (by decide) rfl rfl rfl (by decide) ⟨Nat.le_refl _, Nat.le_refl _⟩ (Nat.le_of_ble_eq_true rfl) (o_stoX γ hN hO hI hD (cty_lt h4s).1 (cty_lt h4s).2) (fun v1 S1 I1 J1 hp => ?_)
    obtain ⟨rfl, rfl, rfl, rfl⟩ := hp
    show Rj _ _ _ _ _ _ (19, [some (.ref 0), some (.int y)], [.int (bi (lifB I y))], (SS b c), (stoI I y), J, 0, 0)
    refine r_ifc okX11_lift rfl (fun (h19 : (bi (lifB I y)) = (0 : Int32)) => ?_) (fun (h19 : ¬ (bi (lifB I y)) = (0 : Int32)) => ?_)
    · refine r_run okX11_lift 1 (cs := []) (σ' := (27, [some (.ref 0), some (.int y)], [.int 0], (SS b c), (stoI I y), J, 0, 0)) rfl trivial ?_
      refine r_iret okX11_lift rfl rfl (by decide +kernel) (Nat.le_refl _) (Nat.le_refl _) ?_
      exact ⟨by unfold liB; rw [h4s, bi_0.mp h19]; rfl, rfl, by rw [h4s]; rfl, rfl⟩
    · refine r_run okX11_lift 2 (cs := []) (σ' := (27, [some (.ref 0), some (.int y)], [.int 1], (SS b c), (stoI I y), J, 0, 0)) rfl trivial ?_
      refine r_iret okX11_lift rfl rfl (by decide +kernel) (Nat.le_refl _) (Nat.le_refl _) ?_
      exact ⟨by unfold liB; rw [h4s, bi_n0.mp h19]; rfl, rfl, by rw [h4s]; rfl, rfl⟩
theorem o_warning (γ : GE) {b c : Bool} {I : AI} {J : AJ} (hN : ONow I) (hO : OWar I J) (hI : MWar I) (hD : WDis I) (x v : Int32) : Ct γ mX11_warning 1 0 0 [.ref 0, .int x, .int v] (SS b c) I J (rI (wngV I x v) (SS b c) I J) := by
  refine ct_of okX11_warning (L := [some (.ref 0), some (.int x), some (.int v)]) (Nat.le_of_ble_eq_true rfl) rfl ?_
  refine r_run okX11_warning 4 (cs := []) (σ' := (6, [some (.ref 0), some (.int x), some (.int v)], [.int v, .int x, .ref 52], (SS b c), I, J, 0, 0)) rfl trivial ?_
  refine r_callV okX11_warning okX10_tell [.int x, .int v] [] 52 rfl rfl rfl kkX10_tell rfl rfl (by decide) rfl rfl rfl (by decide) ⟨Nat.le_refl _, Nat.le_refl _⟩ (Nat.le_of_ble_eq_true rfl) (o_tell γ hO hI x v) (fun v1 S1 I1 J1 hp => ?_)
  obtain ⟨rfl, rfl, rfl, rfl⟩ := hp
  show Rj _ _ _ _ _ _ (9, [some (.ref 0), some (.int x), some (.int v)], [.int (wngV I x v)], (SS b c), I, J, 0, 0)
  refine r_iret okX11_warning rfl rfl rfl (Nat.le_refl _) (Nat.le_refl _) ?_
  exact ⟨rfl, rfl, rfl, rfl⟩
theorem cnt_pt {f g : Nat → Bool} {a : Nat} (hf : f a = false) (hg : ∀ k, g k = (f k || decide (k = a))) : ∀ m, cnt g m = cnt f m + (if a < m then 1 else 0)
  | 0 => rfl
  | m + 1 => by
    unfold cnt
    rw [cnt_pt hf hg m, hg m]
    by_cases e : m = a
    · subst e; rw [hf, if_neg (Nat.lt_irrefl _), if_pos (Nat.lt_succ_self _)]; simp
    · rw [decide_eq_false e, Bool.or_false]
      by_cases h : a < m
      · rw [if_pos h, if_pos (show a < m + 1 by omega)]; omega
      · rw [if_neg h, if_neg (show ¬ a < m + 1 by omega)]; rfl
theorem thrN_is {I : AI} {y t : Int32} : ∀ {n : Nat}, (thrN I y t n).isSome = true → ∃ w, w < n ∧ I 127 w = y ∧ I 128 w ≤ t ∧ t < I 129 w
  | 0, h => by cases h
  | n + 1, h => by
    unfold thrN at h
    split at h
    · rename_i q; exact ⟨n, Nat.lt_succ_self _, q⟩
    · obtain ⟨w, h1, h2⟩ := thrN_is h; exact ⟨w, by omega, h2⟩
theorem run_cnt {I : AI} (hI : MWar I) (hD : WDis I) : ∀ n, n ≤ nv (I 100 45) → cnt (fun k => (thrN I (nI k) (I 100 5) n).isSome) 8 = cnt (lkB I 3) n
  | 0, _ => by exact cnt_0 (fun _ _ => rfl)
  | n + 1, h => by
    have ih := run_cnt hI hD n (by omega)
    obtain ⟨k, hk, ek⟩ := (hI.2.2.2 n (by omega)).1
    rw [show cnt (lkB I 3) (n + 1) = cnt (lkB I 3) n + (if lkB I 3 n then 1 else 0) from rfl, ← ih]
    by_cases hb : I 128 n ≤ I 100 5 ∧ I 100 5 < I 129 n
    · have e1 : lkB I 3 n = true := by unfold lkB; rw [if_pos rfl, decide_eq_true hb.1, decide_eq_true hb.2]; rfl
      rw [e1, if_pos rfl]
      have hf : (thrN I (nI k) (I 100 5) n).isSome = false := by
        cases q : (thrN I (nI k) (I 100 5) n).isSome with
        | false => rfl
        | true =>
          obtain ⟨u, h1, h2, h3, h4⟩ := thrN_is q
          have := hD.2 n (by omega) u h1 (h2.trans ek.symm)
          exact absurd (Int32.lt_of_lt_of_le h4 (Int32.le_trans this hb.1)) Int32.lt_irrefl
      have hg : ∀ j, j < 8 → (thrN I (nI j) (I 100 5) (n + 1)).isSome = ((thrN I (nI j) (I 100 5) n).isSome || decide (j = k)) := fun j hj => by
        rw [thrN]
        by_cases e : j = k
        · subst e; rw [if_pos ⟨ek, hb⟩, decide_eq_true rfl]; simp
        · rw [if_neg (fun q => e (nI_inj (by omega) (by omega) (ek.symm.trans q.1)).symm), decide_eq_false e, Bool.or_false]
      rw [cnt_cg hg, cnt_pt (f := fun j => (thrN I (nI j) (I 100 5) n).isSome) hf (fun _ => rfl) 8, if_pos hk]
    · have e1 : lkB I 3 n = false := by
        unfold lkB; rw [if_pos rfl, Bool.and_eq_false_iff]
        by_cases q : I 128 n ≤ I 100 5
        · exact Or.inr (decide_eq_false fun z => hb ⟨q, z⟩)
        · exact Or.inl (decide_eq_false q)
      rw [e1]
      refine cnt_cg fun j _ => ?_
      show (thrN I (nI j) (I 100 5) (n + 1)).isSome = _
      rw [thrN, if_neg (fun q => hb q.2)]
theorem jd_cnt {I : AI} (hI : MWar I) : ∀ n, n ≤ nv (I 100 45) → cnt (fun w => decide (I 131 w = 1)) n + cnt (fun w => decide (I 131 w = 2)) n = cnt (lkB I 4) n
  | 0, _ => rfl
  | n + 1, h => by
    have ih := jd_cnt hI n (by omega)
    unfold cnt
    rw [← ih]
    have e : (if decide (I 131 n = 1) = true then 1 else 0) + (if decide (I 131 n = 2) = true then 1 else 0) = (if lkB I 4 n = true then 1 else 0) := by
      unfold lkB
      obtain ⟨k, hk, ek⟩ := (hI.2.2.2 n (by omega)).2.2.2.2
      rw [ek]
      rcases (by omega : k = 0 ∨ k = 1 ∨ k = 2) with rfl | rfl | rfl <;> rfl
    omega
theorem o_runX (γ : GE) {b c : Bool} {I : AI} {J : AJ} (hN : ONow I) (hO : OWar I J) (hI : MWar I) (hD : WDis I) : Ct γ mX10_running 1 0 0 [.ref 52, .int (I 0 15)] (SS b c) I J (rI (nI (cnt (lkB I 3) (nv (I 100 45)))) (SS b c) I J) := by
  rw [hN.1, ← run_cnt hI hD _ (Nat.le_refl _)]; exact o_running γ hO hI hD
theorem o_look0 (γ : GE) {b c : Bool} {I : AI} {J : AJ} (hN : ONow I) (hO : OWar I J) (hI : MWar I) (hD : WDis I) (hT : OTel I) : Ct γ mX11_look 2 0 0 [.ref 0, .int 0] (SS b c) I J (rI (lkV I 0) (SS b c) I J) := by
  refine ct_of okX11_look (L := [some (.ref 0), some (.int 0)]) (Nat.le_of_ble_eq_true rfl) rfl ?_
  refine r_run okX11_look 1 (cs := []) (σ' := (1, [some (.ref 0), some (.int 0)], [.int 0], (SS b c), I, J, 0, 0)) rfl trivial ?_
  refine r_tblIn okX11_look rfl (by decide) (by decide) (off := 39) (tgt := 40) rfl rfl ?_
  show Rj _ _ _ _ _ _ (40, [some (.ref 0), some (.int 0)], [], (SS b c), I, J, 0, 0)
  refine r_run okX11_look 2 (cs := []) (σ' := (44, [some (.ref 0), some (.int 0)], [.int (I 0 15)], (SS b c), I, J, 0, 0)) rfl trivial ?_
  refine r_iret okX11_look rfl rfl rfl (Nat.le_refl _) (Nat.le_refl _) ?_
  exact ⟨by rw [hN.1]; rfl, rfl, rfl, rfl⟩
theorem o_look1 (γ : GE) {b c : Bool} {I : AI} {J : AJ} (hN : ONow I) (hO : OWar I J) (hI : MWar I) (hD : WDis I) (hT : OTel I) : Ct γ mX11_look 2 0 0 [.ref 0, .int 1] (SS b c) I J (rI (lkV I 1) (SS b c) I J) := by
  refine ct_of okX11_look (L := [some (.ref 0), some (.int 1)]) (Nat.le_of_ble_eq_true rfl) rfl ?_
  refine r_run okX11_look 1 (cs := []) (σ' := (1, [some (.ref 0), some (.int 1)], [.int 1], (SS b c), I, J, 0, 0)) rfl trivial ?_
  refine r_tblIn okX11_look rfl (by decide) (by decide) (off := 44) (tgt := 45) rfl rfl ?_
  show Rj _ _ _ _ _ _ (45, [some (.ref 0), some (.int 1)], [], (SS b c), I, J, 0, 0)
  refine r_run okX11_look 2 (cs := []) (σ' := (49, [some (.ref 0), some (.int 1)], [.ref 29], (SS b c), I, J, 0, 0)) rfl trivial ?_
  refine r_callV okX11_look okX7_size [] [] 29 rfl rfl rfl kkX7_size rfl rfl (by decide) rfl rfl rfl (by decide) ⟨Nat.le_refl _, Nat.le_refl _⟩ (Nat.le_of_ble_eq_true rfl) (o_tsize γ hT) (fun v1 S1 I1 J1 hp => ?_)
  obtain ⟨rfl, rfl, rfl, rfl⟩ := hp
  show Rj _ _ _ _ _ _ (52, [some (.ref 0), some (.int 1)], [.int (I 100 13)], (SS b c), I, J, 0, 0)
  refine r_iret okX11_look rfl rfl rfl (Nat.le_refl _) (Nat.le_refl _) ?_
  exact ⟨rfl, rfl, rfl, rfl⟩
theorem o_look2 (γ : GE) {b c : Bool} {I : AI} {J : AJ} (hN : ONow I) (hO : OWar I J) (hI : MWar I) (hD : WDis I) (hT : OTel I) : Ct γ mX11_look 2 0 0 [.ref 0, .int 2] (SS b c) I J (rI (lkV I 2) (SS b c) I J) := by
  refine ct_of okX11_look (L := [some (.ref 0), some (.int 2)]) (Nat.le_of_ble_eq_true rfl) rfl ?_
  refine r_run okX11_look 1 (cs := []) (σ' := (1, [some (.ref 0), some (.int 2)], [.int 2], (SS b c), I, J, 0, 0)) rfl trivial ?_
  refine r_tblIn okX11_look rfl (by decide) (by decide) (off := 52) (tgt := 53) rfl rfl ?_
  show Rj _ _ _ _ _ _ (53, [some (.ref 0), some (.int 2)], [], (SS b c), I, J, 0, 0)
  refine r_run okX11_look 2 (cs := []) (σ' := (57, [some (.ref 0), some (.int 2)], [.ref 52], (SS b c), I, J, 0, 0)) rfl trivial ?_
  refine r_callV okX11_look okX10_size [] [] 52 rfl rfl rfl kkX10_size rfl rfl (by decide) rfl rfl rfl (by decide) ⟨Nat.le_refl _, Nat.le_refl _⟩ (Nat.le_of_ble_eq_true rfl) (o_wsize γ hO hI) (fun v1 S1 I1 J1 hp => ?_)
  obtain ⟨rfl, rfl, rfl, rfl⟩ := hp
  show Rj _ _ _ _ _ _ (60, [some (.ref 0), some (.int 2)], [.int (I 100 45)], (SS b c), I, J, 0, 0)
  refine r_iret okX11_look rfl rfl rfl (Nat.le_refl _) (Nat.le_refl _) ?_
  exact ⟨rfl, rfl, rfl, rfl⟩
theorem o_look3 (γ : GE) {b c : Bool} {I : AI} {J : AJ} (hN : ONow I) (hO : OWar I J) (hI : MWar I) (hD : WDis I) (hT : OTel I) : Ct γ mX11_look 2 0 0 [.ref 0, .int 3] (SS b c) I J (rI (lkV I 3) (SS b c) I J) := by
  refine ct_of okX11_look (L := [some (.ref 0), some (.int 3)]) (Nat.le_of_ble_eq_true rfl) rfl ?_
  refine r_run okX11_look 1 (cs := []) (σ' := (1, [some (.ref 0), some (.int 3)], [.int 3], (SS b c), I, J, 0, 0)) rfl trivial ?_
  refine r_tblIn okX11_look rfl (by decide) (by decide) (off := 60) (tgt := 61) rfl rfl ?_
  show Rj _ _ _ _ _ _ (61, [some (.ref 0), some (.int 3)], [], (SS b c), I, J, 0, 0)
  refine r_run okX11_look 4 (cs := []) (σ' := (69, [some (.ref 0), some (.int 3)], [.int (I 0 15), .ref 52], (SS b c), I, J, 0, 0)) rfl trivial ?_
  refine r_callV okX11_look okX10_running [.int (I 0 15)] [] 52 rfl rfl rfl kkX10_running rfl rfl (by decide) rfl rfl rfl (by decide) ⟨Nat.le_refl _, Nat.le_refl _⟩ (Nat.le_of_ble_eq_true rfl) (o_runX γ hN hO hI hD) (fun v1 S1 I1 J1 hp => ?_)
  obtain ⟨rfl, rfl, rfl, rfl⟩ := hp
  show Rj _ _ _ _ _ _ (72, [some (.ref 0), some (.int 3)], [.int (nI (cnt (lkB I 3) (nv (I 100 45))))], (SS b c), I, J, 0, 0)
  refine r_iret okX11_look rfl rfl rfl (Nat.le_refl _) (Nat.le_refl _) ?_
  exact ⟨rfl, rfl, rfl, rfl⟩
theorem o_look4 (γ : GE) {b c : Bool} {I : AI} {J : AJ} (hN : ONow I) (hO : OWar I J) (hI : MWar I) (hD : WDis I) (hT : OTel I) : Ct γ mX11_look 2 0 0 [.ref 0, .int 4] (SS b c) I J (rI (lkV I 4) (SS b c) I J) := by
  refine ct_of okX11_look (L := [some (.ref 0), some (.int 4)]) (Nat.le_of_ble_eq_true rfl) rfl ?_
  refine r_run okX11_look 1 (cs := []) (σ' := (1, [some (.ref 0), some (.int 4)], [.int 4], (SS b c), I, J, 0, 0)) rfl trivial ?_
  refine r_tblIn okX11_look rfl (by decide) (by decide) (off := 72) (tgt := 73) rfl rfl ?_
  show Rj _ _ _ _ _ _ (73, [some (.ref 0), some (.int 4)], [], (SS b c), I, J, 0, 0)
  refine r_run okX11_look 3 (cs := []) (σ' := (78, [some (.ref 0), some (.int 4)], [.int 1, .ref 52], (SS b c), I, J, 0, 0)) rfl trivial ?_
  refine r_callV okX11_look okX10_judgedAs [.int 1] [] 52 rfl rfl rfl kkX10_judgedAs rfl rfl (by decide) rfl rfl rfl (by decide) ⟨Nat.le_refl _, Nat.le_refl _⟩ (Nat.le_of_ble_eq_true rfl) (o_judgedAs γ hO hI 1) (fun v1 S1 I1 J1 hp => ?_)
  obtain ⟨rfl, rfl, rfl, rfl⟩ := hp
  show Rj _ _ _ _ _ _ (81, [some (.ref 0), some (.int 4)], [.int (nI (cnt (fun w => decide (I 131 w = 1)) (nv (I 100 45))))], (SS b c), I, J, 0, 0)
  refine r_run okX11_look 3 (cs := []) (σ' := (86, [some (.ref 0), some (.int 4)], [.int 2, .ref 52, .int (nI (cnt (fun w => decide (I 131 w = 1)) (nv (I 100 45))))], (SS b c), I, J, 0, 0)) rfl trivial ?_
  refine r_callV okX11_look okX10_judgedAs [.int 2] [.int (nI (cnt (fun w => decide (I 131 w = 1)) (nv (I 100 45))))] 52 rfl rfl rfl kkX10_judgedAs rfl rfl (by decide) rfl rfl rfl (by decide) ⟨Nat.le_refl _, Nat.le_refl _⟩ (Nat.le_of_ble_eq_true rfl) (o_judgedAs γ hO hI 2) (fun v1 S1 I1 J1 hp => ?_)
  obtain ⟨rfl, rfl, rfl, rfl⟩ := hp
  show Rj _ _ _ _ _ _ (89, [some (.ref 0), some (.int 4)], [.int (nI (cnt (fun w => decide (I 131 w = 2)) (nv (I 100 45)))), .int (nI (cnt (fun w => decide (I 131 w = 1)) (nv (I 100 45))))], (SS b c), I, J, 0, 0)
  refine r_run okX11_look 1 (cs := []) (σ' := (90, [some (.ref 0), some (.int 4)], [.int ((nI (cnt (fun w => decide (I 131 w = 1)) (nv (I 100 45)))) + (nI (cnt (fun w => decide (I 131 w = 2)) (nv (I 100 45)))))], (SS b c), I, J, 0, 0)) rfl trivial ?_
  refine r_iret okX11_look rfl rfl rfl (Nat.le_refl _) (Nat.le_refl _) ?_
  exact ⟨by rw [nI_ad, jd_cnt hI _ (Nat.le_refl _)]; rfl, rfl, rfl, rfl⟩
theorem o_look5 (γ : GE) {b c : Bool} {I : AI} {J : AJ} (hN : ONow I) (hO : OWar I J) (hI : MWar I) (hD : WDis I) (hT : OTel I) : Ct γ mX11_look 2 0 0 [.ref 0, .int 5] (SS b c) I J (rI (lkV I 5) (SS b c) I J) := by
  refine ct_of okX11_look (L := [some (.ref 0), some (.int 5)]) (Nat.le_of_ble_eq_true rfl) rfl ?_
  refine r_run okX11_look 1 (cs := []) (σ' := (1, [some (.ref 0), some (.int 5)], [.int 5], (SS b c), I, J, 0, 0)) rfl trivial ?_
  refine r_tblIn okX11_look rfl (by decide) (by decide) (off := 90) (tgt := 91) rfl rfl ?_
  show Rj _ _ _ _ _ _ (91, [some (.ref 0), some (.int 5)], [], (SS b c), I, J, 0, 0)
  refine r_run okX11_look 3 (cs := []) (σ' := (96, [some (.ref 0), some (.int 5)], [.int 2, .ref 52], (SS b c), I, J, 0, 0)) rfl trivial ?_
  refine r_callV okX11_look okX10_judgedAs [.int 2] [] 52 rfl rfl rfl kkX10_judgedAs rfl rfl (by decide) rfl rfl rfl (by decide) ⟨Nat.le_refl _, Nat.le_refl _⟩ (Nat.le_of_ble_eq_true rfl) (o_judgedAs γ hO hI 2) (fun v1 S1 I1 J1 hp => ?_)
  obtain ⟨rfl, rfl, rfl, rfl⟩ := hp
  show Rj _ _ _ _ _ _ (99, [some (.ref 0), some (.int 5)], [.int (nI (cnt (fun w => decide (I 131 w = 2)) (nv (I 100 45))))], (SS b c), I, J, 0, 0)
  refine r_iret okX11_look rfl rfl rfl (Nat.le_refl _) (Nat.le_refl _) ?_
  exact ⟨rfl, rfl, rfl, rfl⟩
theorem in_nat2 {v : Int32} (h : inB v 3 5 = true) : ∃ k, k ≤ 5 ∧ v = nI k := by
  have h := inB_t.mp h
  obtain ⟨j, rfl, hj⟩ := nI_ofx (x := v) (Int32.le_trans (by decide) h.1)
  exact ⟨j, Nat.le_of_not_lt fun q => absurd h.2 (nI_ge (a := 5) (b := j) q hj), rfl⟩
theorem o_looko (γ : GE) {b c : Bool} {I : AI} {J : AJ} (hN : ONow I) (hO : OWar I J) (hI : MWar I) (hD : WDis I) (hT : OTel I) {v : Int32} (ho : ∀ k, k ≤ 5 → ¬ v = nI k) : Ct γ mX11_look 2 0 0 [.ref 0, .int v] (SS b c) I J (rI (lkV I v) (SS b c) I J) := by
  refine ct_of okX11_look (L := [some (.ref 0), some (.int v)]) (Nat.le_of_ble_eq_true rfl) rfl ?_
  refine r_run okX11_look 1 (cs := []) (σ' := (1, [some (.ref 0), some (.int v)], [.int v], (SS b c), I, J, 0, 0)) rfl trivial ?_
  refine r_tblOut okX11_look rfl (sw_out 5 (by decide) (fun k hk => ho k hk)) (tgt := 100) rfl ?_
  show Rj _ _ _ _ _ _ (100, [some (.ref 0), some (.int v)], [], (SS b c), I, J, 0, 0)
  refine r_run okX11_look 1 (cs := []) (σ' := (101, [some (.ref 0), some (.int v)], [.int (-1)], (SS b c), I, J, 0, 0)) rfl trivial ?_
  refine r_iret okX11_look rfl rfl rfl (Nat.le_refl _) (Nat.le_refl _) ?_
  have e : lkV I v = -1 := by
    unfold lkV
    rw [if_neg (show ¬ v = 0 from ho 0 (by decide)), if_neg (show ¬ v = 1 from ho 1 (by decide)), if_neg (show ¬ v = 2 from ho 2 (by decide)), if_neg (fun q => by obtain ⟨k, h1, h2⟩ := in_nat2 q; exact ho k h1 h2)]
  exact ⟨by rw [e], rfl, rfl, rfl⟩
theorem o_look (γ : GE) {b c : Bool} {I : AI} {J : AJ} (hN : ONow I) (hO : OWar I J) (hI : MWar I) (hD : WDis I) (hT : OTel I) (v : Int32) : Ct γ mX11_look 2 0 0 [.ref 0, .int v] (SS b c) I J (rI (lkV I v) (SS b c) I J) := by
  by_cases h : ∃ k, k ≤ 5 ∧ v = nI k
  · obtain ⟨k, hk, rfl⟩ := h
    rcases (by omega : k = 0 ∨ k = 1 ∨ k = 2 ∨ k = 3 ∨ k = 4 ∨ k = 5) with rfl | rfl | rfl | rfl | rfl | rfl
    · exact o_look0 γ hN hO hI hD hT
    · exact o_look1 γ hN hO hI hD hT
    · exact o_look2 γ hN hO hI hD hT
    · exact o_look3 γ hN hO hI hD hT
    · exact o_look4 γ hN hO hI hD hT
    · exact o_look5 γ hN hO hI hD hT
  · exact o_looko γ hN hO hI hD hT (fun k hk e => h ⟨k, hk, e⟩)
theorem o_ttell0 (γ : GE) {b c : Bool} {I : AI} {J : AJ} {n : Nat} (hn : n < 720) (x : Int32) : Ct γ mX8_tell 0 0 0 [.ref 63, .int (nI n), .int x] (SS b c) I J (rV (SS b c) (upI I 64 n x) J) := by
  have cn : (nI n).toNatClampNeg = n := nI_clamp (by omega)
  refine ct_of okX8_tell (L := [some (.ref 63), some (.int (nI n)), some (.int x)]) (Nat.le_of_ble_eq_true rfl) rfl ?_
  refine r_run okX8_tell 5 (cs := [vp_in (nI n) 720]) (σ' := (7, [some (.ref 63), some (.int (nI n)), some (.int x)], [], (SS b c), (upI I 64 ((nI n).toNatClampNeg) x), J, 0, 0)) rfl ⟨(vin hn (by decide)), trivial⟩ ?_
  simp only [cn]
  show Rj _ _ _ _ _ _ (7, [some (.ref 63), some (.int (nI n)), some (.int x)], [], (SS b c), (upI I 64 n x), J, 0, 0)
  refine r_vret okX8_tell rfl rfl (Nat.le_refl _) (Nat.le_refl _) ?_
  exact ⟨rfl, rfl, rfl, rfl⟩
theorem o_ttell (γ : GE) {b c : Bool} {I : AI} {J : AJ} {n : Nat} (hn : n < 720) {X : Int32} (eX : X = nI n) (x : Int32) : Ct γ mX8_tell 0 0 0 [.ref 63, .int X, .int x] (SS b c) I J (rV (SS b c) (upI I 64 n x) J) := by
  subst eX; exact o_ttell0 γ hn x
theorem o_truth (γ : GE) {b c : Bool} {I : AI} {J : AJ} (hN : ONow I) (hn5 : rg 720 (I 100 5)) (t x : Int32) : Ct γ mX11_truth 2 0 0 [.ref 0, .int t, .int x] (SS b c) I J (rI (bi (truB I t x)) (SS b c) (if truB I t x then upI I 64 (nv t) x else I) J) := by
  refine ct_of okX11_truth (L := [some (.ref 0), some (.int t), some (.int x)]) (Nat.le_of_ble_eq_true rfl) rfl ?_
  refine r_run okX11_truth 2 (cs := []) (σ' := (2, [some (.ref 0), some (.int t), some (.int x)], [.int t, .ref 0], (SS b c), I, J, 0, 0)) rfl trivial ?_
  refine r_callV okX11_truth okX11_isPast [.int t] [] 0 rfl rfl rfl kkX11_isPast rfl rfl (by decide) rfl rfl rfl (by decide) ⟨Nat.le_refl _, Nat.le_refl _⟩ (Nat.le_of_ble_eq_true rfl) (o_isPast γ hN t) (fun v1 S1 I1 J1 hp => ?_)
  obtain ⟨rfl, rfl, rfl, rfl⟩ := hp
  show Rj _ _ _ _ _ _ (5, [some (.ref 0), some (.int t), some (.int x)], [.int (bi (inB t 0 (I 100 5)))], (SS b c), I, J, 0, 0)
  refine r_ifc okX11_truth rfl (fun (h5 : (bi (inB t 0 (I 100 5))) = (0 : Int32)) => ?_) (fun (h5 : ¬ (bi (inB t 0 (I 100 5))) = (0 : Int32)) => ?_)
  · have h5s := bi_0.mp h5
    refine r_run okX11_truth 1 (cs := []) (σ' := (19, [some (.ref 0), some (.int t), some (.int x)], [.int 0], (SS b c), I, J, 0, 0)) rfl trivial ?_
    refine r_iret okX11_truth rfl rfl (by decide +kernel) (Nat.le_refl _) (Nat.le_refl _) ?_
    have hb : truB I t x = false := by unfold truB; rw [h5s]; rfl
    exact ⟨by rw [hb]; rfl, rfl, by rw [hb]; rfl, rfl⟩
  · have h5s := bi_n0.mp h5
    refine r_run okX11_truth 3 (cs := []) (σ' := (12, [some (.ref 0), some (.int t), some (.int x)], [.int 95, .int (-1), .int x], (SS b c), I, J, 0, 0)) rfl trivial ?_
    refine r_callS okX11_truth okX11_within [.int x, .int (-1), .int 95] [] rfl rfl rfl kkX11_within rfl rfl (by decide) (by decide) ⟨Nat.le_refl _, Nat.le_refl _⟩ (Nat.le_of_ble_eq_true rfl) (o_win γ x (-1) 95) (fun v1 S1 I1 J1 hp => ?_)
    obtain ⟨rfl, rfl, rfl, rfl⟩ := hp
    show Rj _ _ _ _ _ _ (15, [some (.ref 0), some (.int t), some (.int x)], [.int (bi (inB x (-1) 95))], (SS b c), I, J, 0, 0)
    refine r_ifc okX11_truth rfl (fun (h15 : ¬ (bi (inB x (-1) 95)) = (0 : Int32)) => ?_) (fun h150 => ?_)
    · have h15s := bi_n0.mp h15
      refine r_run okX11_truth 4 (cs := []) (σ' := (26, [some (.ref 0), some (.int t), some (.int x)], [.int x, .int t, .ref 63], (SS b c), I, J, 0, 0)) rfl trivial ?_
      refine r_callV okX11_truth okX8_tell [.int t, .int x] [] 63 rfl rfl rfl kkX8_tell rfl rfl (by decide) rfl rfl rfl (by decide) ⟨Nat.le_refl _, Nat.le_refl _⟩ (Nat.le_of_ble_eq_true rfl) (o_ttell γ (Nat.lt_of_le_of_lt (past_vin hn5 h5s).2.1 (rg_nv hn5 (by decide)).1) (past_vin hn5 h5s).2.2 x) (fun v1 S1 I1 J1 hp => ?_)
      obtain ⟨rfl, rfl, rfl, rfl⟩ := hp
      show Rj _ _ _ _ _ _ (29, [some (.ref 0), some (.int t), some (.int x)], [], (SS b c), (upI I 64 (nv t) x), J, 0, 0)
      refine r_run okX11_truth 1 (cs := []) (σ' := (30, [some (.ref 0), some (.int t), some (.int x)], [.int 1], (SS b c), (upI I 64 (nv t) x), J, 0, 0)) rfl trivial ?_
      refine r_iret okX11_truth rfl rfl (by decide +kernel) (Nat.le_refl _) (Nat.le_refl _) ?_
      have hb : truB I t x = true := by unfold truB; rw [h5s, h15s]; rfl
      exact ⟨by rw [hb]; rfl, rfl, by rw [hb]; rfl, rfl⟩
    · have h15 : (bi (inB x (-1) 95)) = (0 : Int32) := Classical.not_not.mp h150
      have h15s := bi_0.mp h15
      refine r_run okX11_truth 1 (cs := []) (σ' := (19, [some (.ref 0), some (.int t), some (.int x)], [.int 0], (SS b c), I, J, 0, 0)) rfl trivial ?_
      refine r_iret okX11_truth rfl rfl (by decide +kernel) (Nat.le_refl _) (Nat.le_refl _) ?_
      have hb : truB I t x = false := by unfold truB; rw [h5s, h15s]; rfl
      exact ⟨by rw [hb]; rfl, rfl, by rw [hb]; rfl, rfl⟩
theorem o_safe (γ : GE) {b c : Bool} {I : AI} {J : AJ} (hN : ONow I) (hO : OWar I J) (hI : MWar I) (hD : WDis I) (hL : OLd I) (t x : Int32) : Ct γ mX11_safe 2 0 0 [.ref 0, .int t, .int x] (SS b c) I J (fun rt S' I' J' => some (.int (safR I t x)) = rt ∧ (SS b c) = S' ∧ I = I' ∧ kJ [62] J J') := by
  refine ct_of okX11_safe (L := [some (.ref 0), some (.int t), some (.int x)]) (Nat.le_of_ble_eq_true rfl) rfl ?_
  refine r_run okX11_safe 2 (cs := []) (σ' := (2, [some (.ref 0), some (.int t), some (.int x)], [.int t, .ref 0], (SS b c), I, J, 0, 0)) rfl trivial ?_
  refine r_callV okX11_safe okX11_isPast [.int t] [] 0 rfl rfl rfl kkX11_isPast rfl rfl (by decide) rfl rfl rfl (by decide) ⟨Nat.le_refl _, Nat.le_refl _⟩ (Nat.le_of_ble_eq_true rfl) (o_isPast γ hN t) (fun v1 S1 I1 J1 hp => ?_)
  obtain ⟨rfl, rfl, rfl, rfl⟩ := hp
  show Rj _ _ _ _ _ _ (5, [some (.ref 0), some (.int t), some (.int x)], [.int (bi (inB t 0 (I 100 5)))], (SS b c), I, J, 0, 0)
  refine r_ifc okX11_safe rfl (fun (h5 : (bi (inB t 0 (I 100 5))) = (0 : Int32)) => ?_) (fun (h5 : ¬ (bi (inB t 0 (I 100 5))) = (0 : Int32)) => ?_)
  · have h5s := bi_0.mp h5
    refine r_run okX11_safe 1 (cs := []) (σ' := (28, [some (.ref 0), some (.int t), some (.int x)], [.int (-1)], (SS b c), I, J, 0, 0)) rfl trivial ?_
    refine r_iret okX11_safe rfl rfl rfl (Nat.le_refl _) (Nat.le_refl _) ?_
    exact ⟨by unfold safR; rw [h5s]; rfl, rfl, rfl, kJ_r⟩
  · have h5s := bi_n0.mp h5
    refine r_run okX11_safe 1 (cs := []) (σ' := (9, [some (.ref 0), some (.int t), some (.int x)], [.int x], (SS b c), I, J, 0, 0)) rfl trivial ?_
    refine r_callS okX11_safe okX11_isCell [.int x] [] rfl rfl rfl kkX11_isCell rfl rfl (by decide) (by decide) ⟨Nat.le_refl _, Nat.le_refl _⟩ (Nat.le_of_ble_eq_true rfl) (o_isCell γ x) (fun v1 S1 I1 J1 hp => ?_)
    obtain ⟨rfl, rfl, rfl, rfl⟩ := hp
    show Rj _ _ _ _ _ _ (12, [some (.ref 0), some (.int t), some (.int x)], [.int (bi (cellB x))], (SS b c), I, J, 0, 0)
    refine r_ifc okX11_safe rfl (fun (h12 : (bi (cellB x)) = (0 : Int32)) => ?_) (fun (h12 : ¬ (bi (cellB x)) = (0 : Int32)) => ?_)
    · have h12s := bi_0.mp h12
      refine r_run okX11_safe 1 (cs := []) (σ' := (28, [some (.ref 0), some (.int t), some (.int x)], [.int (-1)], (SS b c), I, J, 0, 0)) rfl trivial ?_
      refine r_iret okX11_safe rfl rfl rfl (Nat.le_refl _) (Nat.le_refl _) ?_
      exact ⟨by unfold safR; rw [h5s, h12s]; rfl, rfl, rfl, kJ_r⟩
    · have h12s := bi_n0.mp h12
      refine r_run okX11_safe 4 (cs := []) (σ' := (21, [some (.ref 0), some (.int t), some (.int x)], [.int x, .int t, .ref 52], (SS b c), I, J, 0, 0)) rfl trivial ?_
      refine r_callV okX11_safe okX10_safeAt [.int t, .int x] [] 52 rfl rfl rfl kkX10_safeAt rfl rfl (by decide) rfl rfl rfl (by decide) ⟨Nat.le_refl _, Nat.le_refl _⟩ (Nat.le_of_ble_eq_true rfl) (o_safeAt γ hO hI hD hL (cell_lt h12s).1 t (cell_lt h12s).2) (fun v1 S1 I1 J1 hp => ?_)
      obtain ⟨rfl, rfl, rfl, kz⟩ := hp
      obtain ⟨Jz, eJz⟩ : ∃ z, z = J1 := ⟨_, rfl⟩
      subst eJz
      show Rj _ _ _ _ _ _ (24, [some (.ref 0), some (.int t), some (.int x)], [.int (safV I t (nv x))], (SS b c), I, Jz, 0, 0)
      refine r_run okX11_safe 1 (cs := []) (σ' := (28, [some (.ref 0), some (.int t), some (.int x)], [.int (safV I t (nv x))], (SS b c), I, Jz, 0, 0)) rfl trivial ?_
      refine r_iret okX11_safe rfl rfl rfl (Nat.le_refl _) (Nat.le_refl _) ?_
      exact ⟨by unfold safR; rw [h5s, h12s]; rfl, rfl, rfl, kz⟩
def PlP (I : AI) (J : AJ) (p x e : Nat) (I' : AI) (J' : AJ) : Prop := upI I 65 3 (I 65 3 ||| ((1 : Int32) <<< (nI p &&& 31))) = I' ∧ kJ [68 + p] J J' ∧ cs J' (68 + p) (fun y => decide (farN y x ≤ e))
theorem o_lplX (γ : GE) {b c : Bool} {I : AI} {J : AJ} {p x e : Nat} (hp : p < 8) (hx : x < 96) (he : e < 6) {P X E : Int32} (eP : P = nI p) (eX : X = nI x) (eE : E = nI e) : Ct γ mX3_place 2 0 0 [.ref 65, .int P, .int X, .int E] (SS b c) I J (fun rt S' I' J' => none = rt ∧ (SS b c) = S' ∧ PlP I J p x e I' J') := by
  subst eP; subst eX; subst eE; exact o_lplace γ hp hx he
theorem o_post (γ : GE) {b c : Bool} {I : AI} {J : AJ} (p x e : Int32) : Ct γ mX11_post 3 0 0 [.ref 0, .int p, .int x, .int e] (SS b c) I J (fun rt S' I' J' => some (.int (bi (posB p x e))) = rt ∧ (SS b c) = S' ∧ (posB p x e = true → PlP I J (nv p) (nv x) (nv e) I' J') ∧ (posB p x e = false → I = I' ∧ J = J')) := by
  refine ct_of okX11_post (L := [some (.ref 0), some (.int p), some (.int x), some (.int e)]) (Nat.le_of_ble_eq_true rfl) rfl ?_
  refine r_run okX11_post 3 (cs := []) (σ' := (4, [some (.ref 0), some (.int p), some (.int x), some (.int e)], [.int 7, .int 0, .int p], (SS b c), I, J, 0, 0)) rfl trivial ?_
  refine r_callS okX11_post okX11_within [.int p, .int 0, .int 7] [] rfl rfl rfl kkX11_within rfl rfl (by decide) (by decide) ⟨Nat.le_refl _, Nat.le_refl _⟩ (Nat.le_of_ble_eq_true rfl) (o_win γ p 0 7) (fun v1 S1 I1 J1 hp => ?_)
  obtain ⟨rfl, rfl, rfl, rfl⟩ := hp
  show Rj _ _ _ _ _ _ (7, [some (.ref 0), some (.int p), some (.int x), some (.int e)], [.int (bi (inB p 0 7))], (SS b c), I, J, 0, 0)
  refine r_ifc okX11_post rfl (fun (h7 : (bi (inB p 0 7)) = (0 : Int32)) => ?_) (fun (h7 : ¬ (bi (inB p 0 7)) = (0 : Int32)) => ?_)
  · have h7s := bi_0.mp h7
    refine r_run okX11_post 1 (cs := []) (σ' := (27, [some (.ref 0), some (.int p), some (.int x), some (.int e)], [.int 0], (SS b c), I, J, 0, 0)) rfl trivial ?_
    refine r_iret okX11_post rfl rfl (by decide +kernel) (Nat.le_refl _) (Nat.le_refl _) ?_
    have hb : posB p x e = false := by unfold posB; rw [h7s]; rfl
    exact ⟨by rw [hb]; rfl, rfl, (fun q => absurd (hb.symm.trans q) (by decide)), fun _ => ⟨rfl, rfl⟩⟩
  · have h7s := bi_n0.mp h7
    refine r_run okX11_post 1 (cs := []) (σ' := (11, [some (.ref 0), some (.int p), some (.int x), some (.int e)], [.int x], (SS b c), I, J, 0, 0)) rfl trivial ?_
    refine r_callS okX11_post okX11_isCell [.int x] [] rfl rfl rfl kkX11_isCell rfl rfl (by decide) (by decide) ⟨Nat.le_refl _, Nat.le_refl _⟩ (Nat.le_of_ble_eq_true rfl) (o_isCell γ x) (fun v1 S1 I1 J1 hp => ?_)
    obtain ⟨rfl, rfl, rfl, rfl⟩ := hp
    show Rj _ _ _ _ _ _ (14, [some (.ref 0), some (.int p), some (.int x), some (.int e)], [.int (bi (cellB x))], (SS b c), I, J, 0, 0)
    refine r_ifc okX11_post rfl (fun (h14 : (bi (cellB x)) = (0 : Int32)) => ?_) (fun (h14 : ¬ (bi (cellB x)) = (0 : Int32)) => ?_)
    · have h14s := bi_0.mp h14
      refine r_run okX11_post 1 (cs := []) (σ' := (27, [some (.ref 0), some (.int p), some (.int x), some (.int e)], [.int 0], (SS b c), I, J, 0, 0)) rfl trivial ?_
      refine r_iret okX11_post rfl rfl (by decide +kernel) (Nat.le_refl _) (Nat.le_refl _) ?_
      have hb : posB p x e = false := by unfold posB; rw [h7s, h14s]; rfl
      exact ⟨by rw [hb]; rfl, rfl, (fun q => absurd (hb.symm.trans q) (by decide)), fun _ => ⟨rfl, rfl⟩⟩
    · have h14s := bi_n0.mp h14
      refine r_run okX11_post 3 (cs := []) (σ' := (20, [some (.ref 0), some (.int p), some (.int x), some (.int e)], [.int 5, .int 0, .int e], (SS b c), I, J, 0, 0)) rfl trivial ?_
      refine r_callS okX11_post okX11_within [.int e, .int 0, .int 5] [] rfl rfl rfl kkX11_within rfl rfl (by decide) (by decide) ⟨Nat.le_refl _, Nat.le_refl _⟩ (Nat.le_of_ble_eq_true rfl) (o_win γ e 0 5) (fun v1 S1 I1 J1 hp => ?_)
      obtain ⟨rfl, rfl, rfl, rfl⟩ := hp
      show Rj _ _ _ _ _ _ (23, [some (.ref 0), some (.int p), some (.int x), some (.int e)], [.int (bi (inB e 0 5))], (SS b c), I, J, 0, 0)
      refine r_ifc okX11_post rfl (fun (h23 : ¬ (bi (inB e 0 5)) = (0 : Int32)) => ?_) (fun h230 => ?_)
      · have h23s := bi_n0.mp h23
        refine r_run okX11_post 5 (cs := []) (σ' := (35, [some (.ref 0), some (.int p), some (.int x), some (.int e)], [.int e, .int x, .int p, .ref 65], (SS b c), I, J, 0, 0)) rfl trivial ?_
        refine r_callV okX11_post okX3_place [.int p, .int x, .int e] [] 65 rfl rfl rfl kkX3_place rfl rfl (by decide) rfl rfl rfl (by decide) ⟨Nat.le_refl _, Nat.le_refl _⟩ (Nat.le_of_ble_eq_true rfl) (o_lplX γ (Nat.lt_succ_of_le (in_lt (n := 7) h7s rfl (by decide)).1) (cell_lt h14s).1 (Nat.lt_succ_of_le (in_lt (n := 5) h23s rfl (by decide)).1) (in_lt (n := 7) h7s rfl (by decide)).2 (cell_lt h14s).2 (in_lt (n := 5) h23s rfl (by decide)).2) (fun v1 S1 I1 J1 hp => ?_)
        obtain ⟨rfl, rfl, hz⟩ := hp
        obtain ⟨Iz, eIz⟩ : ∃ z, z = I1 := ⟨_, rfl⟩
        subst eIz
        obtain ⟨Jz, eJz⟩ : ∃ z, z = J1 := ⟨_, rfl⟩
        subst eJz
        show Rj _ _ _ _ _ _ (38, [some (.ref 0), some (.int p), some (.int x), some (.int e)], [], (SS b c), Iz, Jz, 0, 0)
        refine r_run okX11_post 1 (cs := []) (σ' := (39, [some (.ref 0), some (.int p), some (.int x), some (.int e)], [.int 1], (SS b c), Iz, Jz, 0, 0)) rfl trivial ?_
        refine r_iret okX11_post rfl rfl (by decide +kernel) (Nat.le_refl _) (Nat.le_refl _) ?_
        have hb : posB p x e = true := by unfold posB; rw [h7s, h14s, h23s]; rfl
        exact ⟨by rw [hb]; rfl, rfl, fun _ => hz, fun q => absurd (hb.symm.trans q) (by decide)⟩
      · have h23 : (bi (inB e 0 5)) = (0 : Int32) := Classical.not_not.mp h230
        have h23s := bi_0.mp h23
        refine r_run okX11_post 1 (cs := []) (σ' := (27, [some (.ref 0), some (.int p), some (.int x), some (.int e)], [.int 0], (SS b c), I, J, 0, 0)) rfl trivial ?_
        refine r_iret okX11_post rfl rfl (by decide +kernel) (Nat.le_refl _) (Nat.le_refl _) ?_
        have hb : posB p x e = false := by unfold posB; rw [h7s, h14s, h23s]; rfl
        exact ⟨by rw [hb]; rfl, rfl, (fun q => absurd (hb.symm.trans q) (by decide)), fun _ => ⟨rfl, rfl⟩⟩
