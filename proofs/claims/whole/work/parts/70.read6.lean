/-! ===== the reference: waits, settles, readAny ===== -/
def Pnd (X : AI) (p : List Int32) : Prop := X 100 39 = nI p.length ∧ StL (X 126) p
def qS (a b : Nat) : Bool := qE a b || qO a b
theorem fS_P {X Y : AI} (h : fr qS X Y) : fr qP X Y := fr_m (fun a b z => by unfold qS; rw [qE_P z, qO_P z]; rfl) h
theorem fE_S {X Y : AI} (h : fr qE X Y) : fr qS X Y := fr_m (fun a b z => by unfold qS at z; rw [Bool.or_eq_false_iff] at z; exact z.1) h
theorem fO_S {X Y : AI} (h : fr qO X Y) : fr qS X Y := fr_m (fun a b z => by unfold qS at z; rw [Bool.or_eq_false_iff] at z; exact z.2) h
theorem PSt_S {T : Nat → Int32} {n i : Nat} {X Y : AI} (h : fr qS X Y) (hP : PSt T n X i) : PSt T n Y i := by
  obtain ⟨h1, h2, h3, h4, h5, h6, h7⟩ := hP
  exact ⟨(fr_c h 118 (fun _ => rfl)).trans h1, (h 100 23 rfl).trans h2, MWds_k (fr_c h 119 (fun _ => rfl)) h3, h4, (h 100 24 rfl).trans h5, (h 100 25 rfl).trans h6, by rw [h 100 26 rfl, h 100 27 rfl]; exact h7⟩
theorem qO_100 {k : Nat} (h : k = 37 ∨ k = 39) : qO 100 k = true := by rcases h with rfl | rfl <;> rfl
theorem up_O {X : AI} {k : Nat} {v : Int32} (h : k = 37 ∨ k = 39) : fr qO X (upI X 100 k v) := by
  intro a z hz
  unfold upI
  by_cases a1 : a = 100
  · rw [if_pos a1]
    by_cases z1 : z = k
    · subst a1; subst z1; rw [qO_100 h] at hz; cases hz
    · rw [if_neg z1]
  · rw [if_neg a1]
theorem Pnd_k {X Y : AI} {p : List Int32} (h1 : Y 126 = X 126) (h2 : Y 100 39 = X 100 39) (h : Pnd X p) : Pnd Y p := ⟨h2.trans h.1, by rw [h1]; exact h.2⟩
theorem flt_rep {o : Int32} (h : ¬ o = 5) : ∀ k : Nat, flt (List.replicate k (o, 0)) = List.replicate k (o, 0)
  | 0 => rfl
  | k + 1 => by rw [List.replicate_succ, flt, if_neg h, flt_rep h k]
theorem c_waits (γ : GE) {b c : Bool} {X : AI} {J : AJ} (p : List Int32) (hP : Pnd X p) (hp : p.length < 40) (v : Int32) : Ct γ mX12_waits 0 0 0 [.ref 100, .int v] (SS b c) X J ((fun r S' I' J' => none = r ∧ (SS b c) = S' ∧ (∃ X', X' = I' ∧ fr qO X X' ∧ Pnd X' (v :: p) ∧ X' 100 37 = X 100 37) ∧ J = J')) := by
  have em := hP.1
  have ck : (nI p.length).toNatClampNeg = p.length := nI_clamp (by omega)
  refine ct_of okX12_waits (L := [some (.ref 100), some (.int v)]) (Nat.le_of_ble_eq_true rfl) rfl ?_
  refine r_run okX12_waits 12 (cs := [vp_in (X 100 39) 40]) (σ' := (20, [some (.ref 100), some (.int v)], [], (SS b c), (upI (upI X 126 ((X 100 39).toNatClampNeg) v) 100 39 ((X 100 39) + 1)), J, 0, 0)) rfl ⟨(by rw [em]; exact vin hp (by decide)), trivial⟩ ?_
  simp only [em, ck]
  show Rj _ _ _ _ _ _ (20, [some (.ref 100), some (.int v)], [], (SS b c), (upI (upI X 126 p.length v) 100 39 ((nI p.length) + 1)), J, 0, 0)
  refine r_vret okX12_waits rfl rfl (Nat.le_refl _) (Nat.le_refl _) ?_
  refine ⟨rfl, rfl, ⟨_, rfl, ?_, ⟨?_, ?_⟩, ?_⟩, rfl⟩
  · refine fr_t (Y := upI X 126 p.length v) (fun a z hz => ?_) (up_O (Or.inr rfl))
    unfold upI
    rw [if_neg (fun q => by rw [q] at hz; exact absurd hz (by unfold qO; simp))]
  · show nI p.length + 1 = nI (v :: p).length; rw [nI_eq1]; rfl
  · show StL (fun z => if z = p.length then v else X 126 z) (v :: p)
    exact ⟨if_pos rfl, StL_u (g := X 126) (Nat.le_refl _) hP.2⟩
  · rfl
theorem lp_st (γ : GE) {b c : Bool} {X : AI} {J : AJ} (v : Int32) (p : List Int32) (hp : ∀ x s, p = x :: s → ¬ x = v) (L : List (Int32 × Int32)) (O : Nat) : ∀ (k : Nat) (Y : AI) (l : List (Int32 × Int32)) (q : Nat), Pnd Y (List.replicate k v ++ p) → Out Y l → l.length + k ≤ 899 → k + p.length ≤ 40 → Y 100 37 = nI q → (v = 9 → k ≤ q) → l ++ List.replicate k (v, 0) = L → (if v = 9 then q - k else q) = O → fr qS X Y → Rj γ mX12_settles 1 0 0 (fun r S' I' J' => none = r ∧ (SS b c) = S' ∧ (∃ X', X' = I' ∧ fr qS X X' ∧ Pnd X' p ∧ Out X' L ∧ X' 100 37 = nI O) ∧ J = J') (0, [some (.ref 100), some (.int v)], [], (SS b c), Y, J, 0, 0) := by
  intro k
  induction k with
  | zero =>
    intro Y l q hP hO hl hk hq h9 hL hQ hf
    rw [List.replicate_zero, List.nil_append] at hP
    cases p with
    | nil =>
      have em : Y 100 39 = 0 := hP.1
      refine r_run okX12_settles 2 (cs := []) (σ' := (4, [some (.ref 100), some (.int v)], [.int (Y 100 39)], (SS b c), Y, J, 0, 0)) rfl trivial ?_
      refine r_ifc okX12_settles rfl (fun (h4 : (Y 100 39) ≤ (0 : Int32)) => ?_) (fun (h4 : ¬ (Y 100 39) ≤ (0 : Int32)) => ?_)
      · refine r_vret okX12_settles rfl rfl (Nat.le_refl _) (Nat.le_refl _) ?_
        refine ⟨rfl, rfl, ⟨Y, rfl, hf, hP, ?_, ?_⟩, rfl⟩
        · rw [← hL, List.replicate_zero, List.append_nil]; exact hO
        · rw [hq, ← hQ]; split <;> rfl
      · exact absurd (by rw [em]; decide) h4
    | cons x s =>
      obtain ⟨m, hm⟩ : ∃ m, m = s.length := ⟨_, rfl⟩
      have hm2 : m + 1 ≤ 40 := by simp at hk; omega
      have em : Y 100 39 = nI (m + 1) := by rw [hm]; exact hP.1
      have e1 : nI (m + 1) - 1 = nI m := nI_pred m
      have cm : (nI m).toNatClampNeg = m := nI_clamp (by omega)
      have et : Y 126 m = x := by rw [hm]; exact hP.2.1
      refine r_run okX12_settles 2 (cs := []) (σ' := (4, [some (.ref 100), some (.int v)], [.int (Y 100 39)], (SS b c), Y, J, 0, 0)) rfl trivial ?_
      simp only [em]
      show Rj _ _ _ _ _ _ (4, [some (.ref 100), some (.int v)], [.int (nI (m + 1))], (SS b c), Y, J, 0, 0)
      refine r_ifc okX12_settles rfl (fun (h4 : (nI (m + 1)) ≤ (0 : Int32)) => ?_) (fun (h4 : ¬ (nI (m + 1)) ≤ (0 : Int32)) => ?_)
      · exact absurd h4 (by first | (rw [em]; exact nI_ge (a := 0) (b := m + 1) (by omega) (by omega)) | exact nI_ge (a := 0) (b := m + 1) (by omega) (by omega))
      · refine r_run okX12_settles 8 (cs := [vp_in ((Y 100 39) - 1) 40]) (σ' := (19, [some (.ref 100), some (.int v)], [.int v, .int (Y 126 (((Y 100 39) - 1).toNatClampNeg))], (SS b c), Y, J, 0, 0)) rfl ⟨(by rw [em, e1]; exact vin (by omega) (by decide)), trivial⟩ ?_
        simp only [em, e1, cm, et]
        show Rj _ _ _ _ _ _ (19, [some (.ref 100), some (.int v)], [.int v, .int x], (SS b c), Y, J, 0, 0)
        refine r_icmp okX12_settles rfl (fun (h19 : ¬ x = v) => ?_) (fun h190 => ?_)
        · refine r_vret okX12_settles rfl rfl (Nat.le_refl _) (Nat.le_refl _) ?_
          refine ⟨rfl, rfl, ⟨Y, rfl, hf, hP, ?_, ?_⟩, rfl⟩
          · rw [← hL, List.replicate_zero, List.append_nil]; exact hO
          · rw [hq, ← hQ]; split <;> rfl
        · have h19 : x = v := Classical.not_not.mp h190
          exact absurd h19 (hp x s rfl)
  | succ k ih =>
    intro Y l q hP hO hl hk hq h9 hL hQ hf
    obtain ⟨m, hm⟩ : ∃ m, m = (List.replicate k v ++ p).length := ⟨_, rfl⟩
    have hm2 : m + 1 ≤ 40 := by rw [List.length_append, List.length_replicate] at hm; omega
    have em : Y 100 39 = nI (m + 1) := by rw [hm]; exact hP.1
    have e1 : nI (m + 1) - 1 = nI m := nI_pred m
    have cm : (nI m).toNatClampNeg = m := nI_clamp (by omega)
    have et : Y 126 m = v := by rw [hm]; exact hP.2.1
    have hP2 : StL (Y 126) (List.replicate k v ++ p) := hP.2.2
    have hPm : nI m = nI (List.replicate k v ++ p).length := by rw [hm]
    refine r_run okX12_settles 2 (cs := []) (σ' := (4, [some (.ref 100), some (.int v)], [.int (Y 100 39)], (SS b c), Y, J, 0, 0)) rfl trivial ?_
    simp only [em]
    show Rj _ _ _ _ _ _ (4, [some (.ref 100), some (.int v)], [.int (nI (m + 1))], (SS b c), Y, J, 0, 0)
    refine r_ifc okX12_settles rfl (fun (h4 : (nI (m + 1)) ≤ (0 : Int32)) => ?_) (fun (h4 : ¬ (nI (m + 1)) ≤ (0 : Int32)) => ?_)
    · exact absurd h4 (by first | (rw [em]; exact nI_ge (a := 0) (b := m + 1) (by omega) (by omega)) | exact nI_ge (a := 0) (b := m + 1) (by omega) (by omega))
    · refine r_run okX12_settles 8 (cs := [vp_in ((Y 100 39) - 1) 40]) (σ' := (19, [some (.ref 100), some (.int v)], [.int v, .int (Y 126 (((Y 100 39) - 1).toNatClampNeg))], (SS b c), Y, J, 0, 0)) rfl ⟨(by rw [em, e1]; exact vin (by omega) (by decide)), trivial⟩ ?_
      simp only [em, e1, cm, et]
      show Rj _ _ _ _ _ _ (19, [some (.ref 100), some (.int v)], [.int v, .int v], (SS b c), Y, J, 0, 0)
      refine r_icmp okX12_settles rfl (fun (h19 : ¬ v = v) => ?_) (fun h190 => ?_)
      · exact absurd rfl h19
      · have h19 : v = v := Classical.not_not.mp h190
        refine r_run okX12_settles 9 (cs := []) (σ' := (35, [some (.ref 100), some (.int v)], [.int 0, .int v, .ref 100], (SS b c), (upI Y 100 39 ((Y 100 39) - 1)), J, 0, 0)) rfl trivial ?_
        simp only [em, e1]
        show Rj _ _ _ _ _ _ (35, [some (.ref 100), some (.int v)], [.int 0, .int v, .ref 100], (SS b c), (upI Y 100 39 (nI m)), J, 0, 0)
        refine r_callV okX12_settles okX12_emits [.int v, .int 0] [] 100 rfl rfl rfl kkX12_emits rfl rfl (by decide) rfl rfl rfl (by decide) ⟨Nat.le_refl _, Nat.le_refl _⟩ (Nat.le_of_ble_eq_true rfl) (c_emits γ (X := upI Y 100 39 (nI m)) l ⟨hO.1, cdA_k (I := Y) (I' := upI Y 100 39 (nI m)) rfl rfl hO.2⟩ (by omega) v 0) (fun v1 S1 I1 J1 hp => ?_)
        obtain ⟨rfl, rfl, ⟨X1, rfl, f1, o1⟩, rfl⟩ := hp
        show Rj _ _ _ _ _ _ (38, [some (.ref 100), some (.int v)], [], (SS b c), X1, J, 0, 0)
        refine r_run okX12_settles 2 (cs := []) (σ' := (41, [some (.ref 100), some (.int v)], [.int 9, .int v], (SS b c), X1, J, 0, 0)) rfl trivial ?_
        refine r_icmp okX12_settles rfl (fun (h41 : ¬ v = (9 : Int32)) => ?_) (fun h410 => ?_)
        · exact ih X1 (l ++ [(v, 0)]) q ⟨(f1 100 39 rfl).trans hPm, by rw [fr_c f1 126 (fun _ => rfl)]; exact hP2⟩ (o1) (by rw [List.length_append]; show l.length + 1 + k ≤ 899; omega) (by omega) ((f1 100 37 rfl).trans hq) (fun h => absurd h h41) (by rw [List.append_assoc]; exact hL) (by rw [if_neg h41] at hQ ⊢; exact hQ) (fr_t hf (fr_t (fO_S (up_O (Or.inr rfl))) (fE_S f1)))
        · have h41 : v = (9 : Int32) := Classical.not_not.mp h410
          refine r_run okX12_settles 7 (cs := []) (σ' := (0, [some (.ref 100), some (.int v)], [], (SS b c), (upI X1 100 37 ((X1 100 37) - 1)), J, 0, 0)) rfl trivial ?_
          exact ih (upI X1 100 37 (X1 100 37 - 1)) (l ++ [(v, 0)]) (q - 1) ⟨(f1 100 39 rfl).trans hPm, by show StL (X1 126) _; rw [fr_c f1 126 (fun _ => rfl)]; exact hP2⟩ (⟨o1.1, cdA_k (I := X1) (I' := upI X1 100 37 (X1 100 37 - 1)) rfl rfl o1.2⟩) (by rw [List.length_append]; show l.length + 1 + k ≤ 899; omega) (by omega) ((show X1 100 37 - 1 = nI (q - 1) by rw [f1 100 37 rfl]; show Y 100 37 - 1 = _; rw [hq]; exact nI_prd (by have := h9 h41; omega))) (fun h => by have := h9 h; omega) (by rw [List.append_assoc]; exact hL) (by rw [if_pos h41] at hQ ⊢; omega) (fr_t hf (fr_t (fO_S (up_O (Or.inr rfl))) (fr_t (fE_S f1) (fO_S (up_O (Or.inl rfl))))))
theorem c_settles (γ : GE) {b c : Bool} {X : AI} {J : AJ} (v : Int32) (k : Nat) (p : List Int32) (l : List (Int32 × Int32)) (q : Nat) (hP : Pnd X (List.replicate k v ++ p)) (hp : ∀ x s, p = x :: s → ¬ x = v) (hO : Out X l) (hl : l.length + k ≤ 899) (hk : k + p.length ≤ 40) (hq : X 100 37 = nI q) (h9 : v = 9 → k ≤ q) : Ct γ mX12_settles 1 0 0 [.ref 100, .int v] (SS b c) X J (fun r S' I' J' => none = r ∧ (SS b c) = S' ∧ (∃ X', X' = I' ∧ fr qS X X' ∧ Pnd X' p ∧ Out X' (l ++ List.replicate k (v, 0)) ∧ X' 100 37 = nI (if v = 9 then q - k else q)) ∧ J = J') := by
  refine ct_of okX12_settles (L := [some (.ref 100), some (.int v)]) (Nat.le_of_ble_eq_true rfl) rfl ?_
  exact lp_st γ v p hp _ _ k X l q hP hO hl hk hq h9 rfl rfl fr_r
