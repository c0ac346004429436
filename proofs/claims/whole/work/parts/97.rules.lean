/-! ===== Rules: reckon ===== -/
def sQ (a0 : Nat) (I : AI) (g : Nat → Int32) : AI := fun a => if a = a0 then g else I a
theorem sQ_self {a0 : Nat} {I : AI} : sQ a0 I (I a0) = I := by funext a; unfold sQ; split; (· rename_i h; rw [h]); rfl
theorem sQ_u {a0 : Nat} {I : AI} {g : Nat → Int32} {k : Nat} {v : Int32} : upI (sQ a0 I g) a0 k v = sQ a0 I (upd g k v) := by
  funext a z; unfold upI sQ upd; by_cases h : a = a0 <;> simp [h]
theorem sQ_k {a0 : Nat} {I : AI} {g : Nat → Int32} : kI [a0] I (sQ a0 I g) := fun a q => by unfold sQ; rw [if_neg (fun z => q (List.mem_singleton.mpr z))]
/-- a word of code as the office keeps it -/
def tkO (p : Int32 × Int32) : Int32 × Int32 := if p.1 = 0 then (16, p.2) else if p.1 = 1 then (7 + p.2, 0) else if p.1 = 2 then (43, 0) else if p.1 = 3 then (45, 0) else if p.1 = 4 then (42, 0) else if p.1 = 5 then (47, p.2) else if p.1 = 6 then (60, 0) else if p.1 = 7 then (61, 0) else if p.1 = 8 then (62, 0) else if p.1 = 9 then (6, 0) else if p.1 = 10 then (5, 0) else (4, 0)
def cdT (I : AI) (A k : Nat) : Cd → Prop
  | [] => True
  | p :: c => I (A + 1) k = (tkO p).1 ∧ I (A + 2) k = (tkO p).2 ∧ cdT I A (k + 1) c
/-- conditions are 0 or 1 -/
def StB : List Int32 → List Bool → Prop
  | [], [] => True
  | x :: s, z :: t => (z = true → bz x) ∧ StB s t
  | _, _ => False
theorem StB_len : ∀ {s : List Int32} {t : List Bool}, StB s t → s.length = t.length
  | [], [], _ => rfl
  | _ :: _, _ :: _, h => congrArg (· + 1) (StB_len h.2)
  | [], _ :: _, h => h.elim
  | _ :: _, [], h => h.elim
theorem StB_c {z : Bool} {t : List Bool} {s : List Int32} (h : StB s (z :: t)) : ∃ x r, s = x :: r ∧ (z = true → bz x) ∧ StB r t := by
  cases s with
  | nil => exact h.elim
  | cons x r => exact ⟨x, r, rfl, h.1, h.2⟩
theorem tyS_c {p : Int32 × Int32} {t t1 : List Bool} (h : tyS p t = some t1) :
    (p.1 = 0 ∧ t1 = false :: t) ∨ (p.1 = 1 ∧ rg 9 p.2 ∧ t1 = false :: t) ∨ (p.1 = 5 ∧ ¬ p.2 = 0 ∧ ∃ r, t = false :: r ∧ t1 = false :: r) ∨ (p.1 = 9 ∧ ∃ r, t = true :: r ∧ t1 = true :: r)
    ∨ ((p.1 = 2 ∨ p.1 = 3 ∨ p.1 = 4) ∧ ∃ r, t = false :: false :: r ∧ t1 = false :: r) ∨ ((p.1 = 6 ∨ p.1 = 7 ∨ p.1 = 8) ∧ ∃ r, t = false :: false :: r ∧ t1 = true :: r) ∨ ((p.1 = 10 ∨ p.1 = 11) ∧ ∃ r, t = true :: true :: r ∧ t1 = true :: r) := by
  unfold tyS at h
  split at h
  · rename_i e; cases h; exact Or.inl ⟨e, rfl⟩
  split at h
  · rename_i e
    split at h
    · rename_i h2; cases h; exact Or.inr (Or.inl ⟨e, inB_rg8 h2, rfl⟩)
    · cases h
  split at h
  · rename_i e
    split at h
    · split at h
      · rename_i h2; cases h
        refine Or.inr (Or.inr (Or.inl ⟨e, fun z => ?_, _, rfl, rfl⟩))
        rw [z] at h2; exact absurd h2 (by decide)
      · cases h
    · cases h
  split at h
  · rename_i e
    split at h
    · cases h; exact Or.inr (Or.inr (Or.inr (Or.inl ⟨e, _, rfl, rfl⟩)))
    · cases h
  split at h
  · rename_i e
    unfold isN1 at e
    simp only [Bool.or_eq_true, decide_eq_true_eq] at e
    split at h
    · cases h; exact Or.inr (Or.inr (Or.inr (Or.inr (Or.inl ⟨or_assoc.mp e, _, rfl, rfl⟩))))
    · cases h
  split at h
  · rename_i e
    unfold isC1 at e
    simp only [Bool.or_eq_true, decide_eq_true_eq] at e
    split at h
    · cases h; exact Or.inr (Or.inr (Or.inr (Or.inr (Or.inr (Or.inl ⟨or_assoc.mp e, _, rfl, rfl⟩)))))
    · cases h
  split at h
  · rename_i e
    unfold isB1 at e
    simp only [Bool.or_eq_true, decide_eq_true_eq] at e
    split at h
    · cases h; exact Or.inr (Or.inr (Or.inr (Or.inr (Or.inr (Or.inr ⟨e, _, rfl, rfl⟩)))))
    · cases h
  · cases h
theorem bz_and {x y : Int32} (hx : bz x) (hy : bz y) : x &&& y = x * y ∧ bz (x * y) := by
  rcases hx with rfl | rfl <;> rcases hy with rfl | rfl <;> exact ⟨by decide, by first | exact Or.inl (by decide) | exact Or.inr (by decide)⟩
theorem bz_or {x y : Int32} (hx : bz x) (hy : bz y) : x ||| y = (if 0 < x + y then 1 else 0) ∧ bz (if 0 < x + y then 1 else 0) := by
  rcases hx with rfl | rfl <;> rcases hy with rfl | rfl <;> exact ⟨by decide, by first | exact Or.inl (by decide) | exact Or.inr (by decide)⟩
theorem bz_not {x : Int32} (hx : bz x) : bz (1 - x) := by rcases hx with rfl | rfl <;> first | exact Or.inl (by decide) | exact Or.inr (by decide)
theorem bz_if {c : Prop} [Decidable c] : bz (if c then 1 else 0) := by split; (· exact Or.inr rfl); exact Or.inl rfl
theorem o_ops16 (γ : GE) {S : List Sh} {I : AI} {J : AJ} : Ct γ mX6_operands 0 0 0 [.int 16] S I J (rI 0 S I J) := by
  refine ct_of okX6_operands (L := [some (.int 16)]) (Nat.le_of_ble_eq_true rfl) rfl ?_
  refine r_run okX6_operands 2 (cs := []) (σ' := (3, [some (.int 16)], [.int 16, .int 16], S, I, J, 0, 0)) rfl trivial ?_
  refine r_icmp okX6_operands rfl (fun (h3 : (16 : Int32) = (16 : Int32)) => ?_) (fun (h3 : ¬ (16 : Int32) = (16 : Int32)) => ?_)
  · refine r_run okX6_operands 1 (cs := []) (σ' := (19, [some (.int 16)], [.int 0], S, I, J, 0, 0)) rfl trivial ?_
    refine r_iret okX6_operands rfl rfl rfl (Nat.le_refl _) (Nat.le_refl _) ?_
    exact ⟨rfl, rfl, rfl, rfl⟩
  · exact absurd h3 (by decide)
theorem o_ops43 (γ : GE) {S : List Sh} {I : AI} {J : AJ} : Ct γ mX6_operands 0 0 0 [.int 43] S I J (rI 2 S I J) := by
  refine ct_of okX6_operands (L := [some (.int 43)]) (Nat.le_of_ble_eq_true rfl) rfl ?_
  refine r_run okX6_operands 2 (cs := []) (σ' := (3, [some (.int 43)], [.int 16, .int 43], S, I, J, 0, 0)) rfl trivial ?_
  refine r_icmp okX6_operands rfl (fun (h3 : (43 : Int32) = (16 : Int32)) => ?_) (fun (h3 : ¬ (43 : Int32) = (16 : Int32)) => ?_)
  · exact absurd h3 (by decide)
  · refine r_run okX6_operands 2 (cs := []) (σ' := (9, [some (.int 43)], [.int 7, .int 43], S, I, J, 0, 0)) rfl trivial ?_
    refine r_icmp okX6_operands rfl (fun (h9 : (43 : Int32) < (7 : Int32)) => ?_) (fun (h9 : ¬ (43 : Int32) < (7 : Int32)) => ?_)
    · exact absurd h9 (by decide)
    · refine r_run okX6_operands 2 (cs := []) (σ' := (15, [some (.int 43)], [.int 15, .int 43], S, I, J, 0, 0)) rfl trivial ?_
      refine r_icmp okX6_operands rfl (fun (h15 : (15 : Int32) < (43 : Int32)) => ?_) (fun (h15 : ¬ (15 : Int32) < (43 : Int32)) => ?_)
      · refine r_run okX6_operands 2 (cs := []) (σ' := (23, [some (.int 43)], [.int 6, .int 43], S, I, J, 0, 0)) rfl trivial ?_
        refine r_icmp okX6_operands rfl (fun (h23 : (43 : Int32) = (6 : Int32)) => ?_) (fun (h23 : ¬ (43 : Int32) = (6 : Int32)) => ?_)
        · exact absurd h23 (by decide)
        · refine r_run okX6_operands 2 (cs := []) (σ' := (29, [some (.int 43)], [.int 47, .int 43], S, I, J, 0, 0)) rfl trivial ?_
          refine r_icmp okX6_operands rfl (fun (h29 : ¬ (43 : Int32) = (47 : Int32)) => ?_) (fun h290 => ?_)
          · refine r_run okX6_operands 1 (cs := []) (σ' := (37, [some (.int 43)], [.int 2], S, I, J, 0, 0)) rfl trivial ?_
            refine r_iret okX6_operands rfl rfl rfl (Nat.le_refl _) (Nat.le_refl _) ?_
            exact ⟨rfl, rfl, rfl, rfl⟩
          · have h29 : (43 : Int32) = (47 : Int32) := Classical.not_not.mp h290
            exact absurd h29 (by decide)
      · exact absurd h15 (by decide)
theorem o_ops45 (γ : GE) {S : List Sh} {I : AI} {J : AJ} : Ct γ mX6_operands 0 0 0 [.int 45] S I J (rI 2 S I J) := by
  refine ct_of okX6_operands (L := [some (.int 45)]) (Nat.le_of_ble_eq_true rfl) rfl ?_
  refine r_run okX6_operands 2 (cs := []) (σ' := (3, [some (.int 45)], [.int 16, .int 45], S, I, J, 0, 0)) rfl trivial ?_
  refine r_icmp okX6_operands rfl (fun (h3 : (45 : Int32) = (16 : Int32)) => ?_) (fun (h3 : ¬ (45 : Int32) = (16 : Int32)) => ?_)
  · exact absurd h3 (by decide)
  · refine r_run okX6_operands 2 (cs := []) (σ' := (9, [some (.int 45)], [.int 7, .int 45], S, I, J, 0, 0)) rfl trivial ?_
    refine r_icmp okX6_operands rfl (fun (h9 : (45 : Int32) < (7 : Int32)) => ?_) (fun (h9 : ¬ (45 : Int32) < (7 : Int32)) => ?_)
    · exact absurd h9 (by decide)
    · refine r_run okX6_operands 2 (cs := []) (σ' := (15, [some (.int 45)], [.int 15, .int 45], S, I, J, 0, 0)) rfl trivial ?_
      refine r_icmp okX6_operands rfl (fun (h15 : (15 : Int32) < (45 : Int32)) => ?_) (fun (h15 : ¬ (15 : Int32) < (45 : Int32)) => ?_)
      · refine r_run okX6_operands 2 (cs := []) (σ' := (23, [some (.int 45)], [.int 6, .int 45], S, I, J, 0, 0)) rfl trivial ?_
        refine r_icmp okX6_operands rfl (fun (h23 : (45 : Int32) = (6 : Int32)) => ?_) (fun (h23 : ¬ (45 : Int32) = (6 : Int32)) => ?_)
        · exact absurd h23 (by decide)
        · refine r_run okX6_operands 2 (cs := []) (σ' := (29, [some (.int 45)], [.int 47, .int 45], S, I, J, 0, 0)) rfl trivial ?_
          refine r_icmp okX6_operands rfl (fun (h29 : ¬ (45 : Int32) = (47 : Int32)) => ?_) (fun h290 => ?_)
          · refine r_run okX6_operands 1 (cs := []) (σ' := (37, [some (.int 45)], [.int 2], S, I, J, 0, 0)) rfl trivial ?_
            refine r_iret okX6_operands rfl rfl rfl (Nat.le_refl _) (Nat.le_refl _) ?_
            exact ⟨rfl, rfl, rfl, rfl⟩
          · have h29 : (45 : Int32) = (47 : Int32) := Classical.not_not.mp h290
            exact absurd h29 (by decide)
      · exact absurd h15 (by decide)
theorem o_ops42 (γ : GE) {S : List Sh} {I : AI} {J : AJ} : Ct γ mX6_operands 0 0 0 [.int 42] S I J (rI 2 S I J) := by
  refine ct_of okX6_operands (L := [some (.int 42)]) (Nat.le_of_ble_eq_true rfl) rfl ?_
  refine r_run okX6_operands 2 (cs := []) (σ' := (3, [some (.int 42)], [.int 16, .int 42], S, I, J, 0, 0)) rfl trivial ?_
  refine r_icmp okX6_operands rfl (fun (h3 : (42 : Int32) = (16 : Int32)) => ?_) (fun (h3 : ¬ (42 : Int32) = (16 : Int32)) => ?_)
  · exact absurd h3 (by decide)
  · refine r_run okX6_operands 2 (cs := []) (σ' := (9, [some (.int 42)], [.int 7, .int 42], S, I, J, 0, 0)) rfl trivial ?_
    refine r_icmp okX6_operands rfl (fun (h9 : (42 : Int32) < (7 : Int32)) => ?_) (fun (h9 : ¬ (42 : Int32) < (7 : Int32)) => ?_)
    · exact absurd h9 (by decide)
    · refine r_run okX6_operands 2 (cs := []) (σ' := (15, [some (.int 42)], [.int 15, .int 42], S, I, J, 0, 0)) rfl trivial ?_
      refine r_icmp okX6_operands rfl (fun (h15 : (15 : Int32) < (42 : Int32)) => ?_) (fun (h15 : ¬ (15 : Int32) < (42 : Int32)) => ?_)
      · refine r_run okX6_operands 2 (cs := []) (σ' := (23, [some (.int 42)], [.int 6, .int 42], S, I, J, 0, 0)) rfl trivial ?_
        refine r_icmp okX6_operands rfl (fun (h23 : (42 : Int32) = (6 : Int32)) => ?_) (fun (h23 : ¬ (42 : Int32) = (6 : Int32)) => ?_)
        · exact absurd h23 (by decide)
        · refine r_run okX6_operands 2 (cs := []) (σ' := (29, [some (.int 42)], [.int 47, .int 42], S, I, J, 0, 0)) rfl trivial ?_
          refine r_icmp okX6_operands rfl (fun (h29 : ¬ (42 : Int32) = (47 : Int32)) => ?_) (fun h290 => ?_)
          · refine r_run okX6_operands 1 (cs := []) (σ' := (37, [some (.int 42)], [.int 2], S, I, J, 0, 0)) rfl trivial ?_
            refine r_iret okX6_operands rfl rfl rfl (Nat.le_refl _) (Nat.le_refl _) ?_
            exact ⟨rfl, rfl, rfl, rfl⟩
          · have h29 : (42 : Int32) = (47 : Int32) := Classical.not_not.mp h290
            exact absurd h29 (by decide)
      · exact absurd h15 (by decide)
theorem o_ops47 (γ : GE) {S : List Sh} {I : AI} {J : AJ} : Ct γ mX6_operands 0 0 0 [.int 47] S I J (rI 1 S I J) := by
  refine ct_of okX6_operands (L := [some (.int 47)]) (Nat.le_of_ble_eq_true rfl) rfl ?_
  refine r_run okX6_operands 2 (cs := []) (σ' := (3, [some (.int 47)], [.int 16, .int 47], S, I, J, 0, 0)) rfl trivial ?_
  refine r_icmp okX6_operands rfl (fun (h3 : (47 : Int32) = (16 : Int32)) => ?_) (fun (h3 : ¬ (47 : Int32) = (16 : Int32)) => ?_)
  · exact absurd h3 (by decide)
  · refine r_run okX6_operands 2 (cs := []) (σ' := (9, [some (.int 47)], [.int 7, .int 47], S, I, J, 0, 0)) rfl trivial ?_
    refine r_icmp okX6_operands rfl (fun (h9 : (47 : Int32) < (7 : Int32)) => ?_) (fun (h9 : ¬ (47 : Int32) < (7 : Int32)) => ?_)
    · exact absurd h9 (by decide)
    · refine r_run okX6_operands 2 (cs := []) (σ' := (15, [some (.int 47)], [.int 15, .int 47], S, I, J, 0, 0)) rfl trivial ?_
      refine r_icmp okX6_operands rfl (fun (h15 : (15 : Int32) < (47 : Int32)) => ?_) (fun (h15 : ¬ (15 : Int32) < (47 : Int32)) => ?_)
      · refine r_run okX6_operands 2 (cs := []) (σ' := (23, [some (.int 47)], [.int 6, .int 47], S, I, J, 0, 0)) rfl trivial ?_
        refine r_icmp okX6_operands rfl (fun (h23 : (47 : Int32) = (6 : Int32)) => ?_) (fun (h23 : ¬ (47 : Int32) = (6 : Int32)) => ?_)
        · exact absurd h23 (by decide)
        · refine r_run okX6_operands 2 (cs := []) (σ' := (29, [some (.int 47)], [.int 47, .int 47], S, I, J, 0, 0)) rfl trivial ?_
          refine r_icmp okX6_operands rfl (fun (h29 : ¬ (47 : Int32) = (47 : Int32)) => ?_) (fun h290 => ?_)
          · exact absurd h29 (by decide)
          · have h29 : (47 : Int32) = (47 : Int32) := Classical.not_not.mp h290
            refine r_run okX6_operands 2 (cs := []) (σ' := (37, [some (.int 47)], [.int 1], S, I, J, 0, 0)) rfl trivial ?_
            refine r_iret okX6_operands rfl rfl rfl (Nat.le_refl _) (Nat.le_refl _) ?_
            exact ⟨rfl, rfl, rfl, rfl⟩
      · exact absurd h15 (by decide)
theorem o_ops60 (γ : GE) {S : List Sh} {I : AI} {J : AJ} : Ct γ mX6_operands 0 0 0 [.int 60] S I J (rI 2 S I J) := by
  refine ct_of okX6_operands (L := [some (.int 60)]) (Nat.le_of_ble_eq_true rfl) rfl ?_
  refine r_run okX6_operands 2 (cs := []) (σ' := (3, [some (.int 60)], [.int 16, .int 60], S, I, J, 0, 0)) rfl trivial ?_
  refine r_icmp okX6_operands rfl (fun (h3 : (60 : Int32) = (16 : Int32)) => ?_) (fun (h3 : ¬ (60 : Int32) = (16 : Int32)) => ?_)
  · exact absurd h3 (by decide)
  · refine r_run okX6_operands 2 (cs := []) (σ' := (9, [some (.int 60)], [.int 7, .int 60], S, I, J, 0, 0)) rfl trivial ?_
    refine r_icmp okX6_operands rfl (fun (h9 : (60 : Int32) < (7 : Int32)) => ?_) (fun (h9 : ¬ (60 : Int32) < (7 : Int32)) => ?_)
    · exact absurd h9 (by decide)
    · refine r_run okX6_operands 2 (cs := []) (σ' := (15, [some (.int 60)], [.int 15, .int 60], S, I, J, 0, 0)) rfl trivial ?_
      refine r_icmp okX6_operands rfl (fun (h15 : (15 : Int32) < (60 : Int32)) => ?_) (fun (h15 : ¬ (15 : Int32) < (60 : Int32)) => ?_)
      · refine r_run okX6_operands 2 (cs := []) (σ' := (23, [some (.int 60)], [.int 6, .int 60], S, I, J, 0, 0)) rfl trivial ?_
        refine r_icmp okX6_operands rfl (fun (h23 : (60 : Int32) = (6 : Int32)) => ?_) (fun (h23 : ¬ (60 : Int32) = (6 : Int32)) => ?_)
        · exact absurd h23 (by decide)
        · refine r_run okX6_operands 2 (cs := []) (σ' := (29, [some (.int 60)], [.int 47, .int 60], S, I, J, 0, 0)) rfl trivial ?_
          refine r_icmp okX6_operands rfl (fun (h29 : ¬ (60 : Int32) = (47 : Int32)) => ?_) (fun h290 => ?_)
          · refine r_run okX6_operands 1 (cs := []) (σ' := (37, [some (.int 60)], [.int 2], S, I, J, 0, 0)) rfl trivial ?_
            refine r_iret okX6_operands rfl rfl rfl (Nat.le_refl _) (Nat.le_refl _) ?_
            exact ⟨rfl, rfl, rfl, rfl⟩
          · have h29 : (60 : Int32) = (47 : Int32) := Classical.not_not.mp h290
            exact absurd h29 (by decide)
      · exact absurd h15 (by decide)
theorem o_ops61 (γ : GE) {S : List Sh} {I : AI} {J : AJ} : Ct γ mX6_operands 0 0 0 [.int 61] S I J (rI 2 S I J) := by
  refine ct_of okX6_operands (L := [some (.int 61)]) (Nat.le_of_ble_eq_true rfl) rfl ?_
  refine r_run okX6_operands 2 (cs := []) (σ' := (3, [some (.int 61)], [.int 16, .int 61], S, I, J, 0, 0)) rfl trivial ?_
  refine r_icmp okX6_operands rfl (fun (h3 : (61 : Int32) = (16 : Int32)) => ?_) (fun (h3 : ¬ (61 : Int32) = (16 : Int32)) => ?_)
  · exact absurd h3 (by decide)
  · refine r_run okX6_operands 2 (cs := []) (σ' := (9, [some (.int 61)], [.int 7, .int 61], S, I, J, 0, 0)) rfl trivial ?_
    refine r_icmp okX6_operands rfl (fun (h9 : (61 : Int32) < (7 : Int32)) => ?_) (fun (h9 : ¬ (61 : Int32) < (7 : Int32)) => ?_)
    · exact absurd h9 (by decide)
    · refine r_run okX6_operands 2 (cs := []) (σ' := (15, [some (.int 61)], [.int 15, .int 61], S, I, J, 0, 0)) rfl trivial ?_
      refine r_icmp okX6_operands rfl (fun (h15 : (15 : Int32) < (61 : Int32)) => ?_) (fun (h15 : ¬ (15 : Int32) < (61 : Int32)) => ?_)
      · refine r_run okX6_operands 2 (cs := []) (σ' := (23, [some (.int 61)], [.int 6, .int 61], S, I, J, 0, 0)) rfl trivial ?_
        refine r_icmp okX6_operands rfl (fun (h23 : (61 : Int32) = (6 : Int32)) => ?_) (fun (h23 : ¬ (61 : Int32) = (6 : Int32)) => ?_)
        · exact absurd h23 (by decide)
        · refine r_run okX6_operands 2 (cs := []) (σ' := (29, [some (.int 61)], [.int 47, .int 61], S, I, J, 0, 0)) rfl trivial ?_
          refine r_icmp okX6_operands rfl (fun (h29 : ¬ (61 : Int32) = (47 : Int32)) => ?_) (fun h290 => ?_)
          · refine r_run okX6_operands 1 (cs := []) (σ' := (37, [some (.int 61)], [.int 2], S, I, J, 0, 0)) rfl trivial ?_
            refine r_iret okX6_operands rfl rfl rfl (Nat.le_refl _) (Nat.le_refl _) ?_
            exact ⟨rfl, rfl, rfl, rfl⟩
          · have h29 : (61 : Int32) = (47 : Int32) := Classical.not_not.mp h290
            exact absurd h29 (by decide)
      · exact absurd h15 (by decide)
theorem o_ops62 (γ : GE) {S : List Sh} {I : AI} {J : AJ} : Ct γ mX6_operands 0 0 0 [.int 62] S I J (rI 2 S I J) := by
  refine ct_of okX6_operands (L := [some (.int 62)]) (Nat.le_of_ble_eq_true rfl) rfl ?_
  refine r_run okX6_operands 2 (cs := []) (σ' := (3, [some (.int 62)], [.int 16, .int 62], S, I, J, 0, 0)) rfl trivial ?_
  refine r_icmp okX6_operands rfl (fun (h3 : (62 : Int32) = (16 : Int32)) => ?_) (fun (h3 : ¬ (62 : Int32) = (16 : Int32)) => ?_)
  · exact absurd h3 (by decide)
  · refine r_run okX6_operands 2 (cs := []) (σ' := (9, [some (.int 62)], [.int 7, .int 62], S, I, J, 0, 0)) rfl trivial ?_
    refine r_icmp okX6_operands rfl (fun (h9 : (62 : Int32) < (7 : Int32)) => ?_) (fun (h9 : ¬ (62 : Int32) < (7 : Int32)) => ?_)
    · exact absurd h9 (by decide)
    · refine r_run okX6_operands 2 (cs := []) (σ' := (15, [some (.int 62)], [.int 15, .int 62], S, I, J, 0, 0)) rfl trivial ?_
      refine r_icmp okX6_operands rfl (fun (h15 : (15 : Int32) < (62 : Int32)) => ?_) (fun (h15 : ¬ (15 : Int32) < (62 : Int32)) => ?_)
      · refine r_run okX6_operands 2 (cs := []) (σ' := (23, [some (.int 62)], [.int 6, .int 62], S, I, J, 0, 0)) rfl trivial ?_
        refine r_icmp okX6_operands rfl (fun (h23 : (62 : Int32) = (6 : Int32)) => ?_) (fun (h23 : ¬ (62 : Int32) = (6 : Int32)) => ?_)
        · exact absurd h23 (by decide)
        · refine r_run okX6_operands 2 (cs := []) (σ' := (29, [some (.int 62)], [.int 47, .int 62], S, I, J, 0, 0)) rfl trivial ?_
          refine r_icmp okX6_operands rfl (fun (h29 : ¬ (62 : Int32) = (47 : Int32)) => ?_) (fun h290 => ?_)
          · refine r_run okX6_operands 1 (cs := []) (σ' := (37, [some (.int 62)], [.int 2], S, I, J, 0, 0)) rfl trivial ?_
            refine r_iret okX6_operands rfl rfl rfl (Nat.le_refl _) (Nat.le_refl _) ?_
            exact ⟨rfl, rfl, rfl, rfl⟩
          · have h29 : (62 : Int32) = (47 : Int32) := Classical.not_not.mp h290
            exact absurd h29 (by decide)
      · exact absurd h15 (by decide)
theorem o_ops6 (γ : GE) {S : List Sh} {I : AI} {J : AJ} : Ct γ mX6_operands 0 0 0 [.int 6] S I J (rI 1 S I J) := by
  refine ct_of okX6_operands (L := [some (.int 6)]) (Nat.le_of_ble_eq_true rfl) rfl ?_
  refine r_run okX6_operands 2 (cs := []) (σ' := (3, [some (.int 6)], [.int 16, .int 6], S, I, J, 0, 0)) rfl trivial ?_
  refine r_icmp okX6_operands rfl (fun (h3 : (6 : Int32) = (16 : Int32)) => ?_) (fun (h3 : ¬ (6 : Int32) = (16 : Int32)) => ?_)
  · exact absurd h3 (by decide)
  · refine r_run okX6_operands 2 (cs := []) (σ' := (9, [some (.int 6)], [.int 7, .int 6], S, I, J, 0, 0)) rfl trivial ?_
    refine r_icmp okX6_operands rfl (fun (h9 : (6 : Int32) < (7 : Int32)) => ?_) (fun (h9 : ¬ (6 : Int32) < (7 : Int32)) => ?_)
    · refine r_run okX6_operands 2 (cs := []) (σ' := (23, [some (.int 6)], [.int 6, .int 6], S, I, J, 0, 0)) rfl trivial ?_
      refine r_icmp okX6_operands rfl (fun (h23 : (6 : Int32) = (6 : Int32)) => ?_) (fun (h23 : ¬ (6 : Int32) = (6 : Int32)) => ?_)
      · refine r_run okX6_operands 2 (cs := []) (σ' := (37, [some (.int 6)], [.int 1], S, I, J, 0, 0)) rfl trivial ?_
        refine r_iret okX6_operands rfl rfl rfl (Nat.le_refl _) (Nat.le_refl _) ?_
        exact ⟨rfl, rfl, rfl, rfl⟩
      · exact absurd h23 (by decide)
    · exact absurd h9 (by decide)
theorem o_ops5 (γ : GE) {S : List Sh} {I : AI} {J : AJ} : Ct γ mX6_operands 0 0 0 [.int 5] S I J (rI 2 S I J) := by
  refine ct_of okX6_operands (L := [some (.int 5)]) (Nat.le_of_ble_eq_true rfl) rfl ?_
  refine r_run okX6_operands 2 (cs := []) (σ' := (3, [some (.int 5)], [.int 16, .int 5], S, I, J, 0, 0)) rfl trivial ?_
  refine r_icmp okX6_operands rfl (fun (h3 : (5 : Int32) = (16 : Int32)) => ?_) (fun (h3 : ¬ (5 : Int32) = (16 : Int32)) => ?_)
  · exact absurd h3 (by decide)
  · refine r_run okX6_operands 2 (cs := []) (σ' := (9, [some (.int 5)], [.int 7, .int 5], S, I, J, 0, 0)) rfl trivial ?_
    refine r_icmp okX6_operands rfl (fun (h9 : (5 : Int32) < (7 : Int32)) => ?_) (fun (h9 : ¬ (5 : Int32) < (7 : Int32)) => ?_)
    · refine r_run okX6_operands 2 (cs := []) (σ' := (23, [some (.int 5)], [.int 6, .int 5], S, I, J, 0, 0)) rfl trivial ?_
      refine r_icmp okX6_operands rfl (fun (h23 : (5 : Int32) = (6 : Int32)) => ?_) (fun (h23 : ¬ (5 : Int32) = (6 : Int32)) => ?_)
      · exact absurd h23 (by decide)
      · refine r_run okX6_operands 2 (cs := []) (σ' := (29, [some (.int 5)], [.int 47, .int 5], S, I, J, 0, 0)) rfl trivial ?_
        refine r_icmp okX6_operands rfl (fun (h29 : ¬ (5 : Int32) = (47 : Int32)) => ?_) (fun h290 => ?_)
        · refine r_run okX6_operands 1 (cs := []) (σ' := (37, [some (.int 5)], [.int 2], S, I, J, 0, 0)) rfl trivial ?_
          refine r_iret okX6_operands rfl rfl rfl (Nat.le_refl _) (Nat.le_refl _) ?_
          exact ⟨rfl, rfl, rfl, rfl⟩
        · have h29 : (5 : Int32) = (47 : Int32) := Classical.not_not.mp h290
          exact absurd h29 (by decide)
    · exact absurd h9 (by decide)
theorem o_ops4 (γ : GE) {S : List Sh} {I : AI} {J : AJ} : Ct γ mX6_operands 0 0 0 [.int 4] S I J (rI 2 S I J) := by
  refine ct_of okX6_operands (L := [some (.int 4)]) (Nat.le_of_ble_eq_true rfl) rfl ?_
  refine r_run okX6_operands 2 (cs := []) (σ' := (3, [some (.int 4)], [.int 16, .int 4], S, I, J, 0, 0)) rfl trivial ?_
  refine r_icmp okX6_operands rfl (fun (h3 : (4 : Int32) = (16 : Int32)) => ?_) (fun (h3 : ¬ (4 : Int32) = (16 : Int32)) => ?_)
  · exact absurd h3 (by decide)
  · refine r_run okX6_operands 2 (cs := []) (σ' := (9, [some (.int 4)], [.int 7, .int 4], S, I, J, 0, 0)) rfl trivial ?_
    refine r_icmp okX6_operands rfl (fun (h9 : (4 : Int32) < (7 : Int32)) => ?_) (fun (h9 : ¬ (4 : Int32) < (7 : Int32)) => ?_)
    · refine r_run okX6_operands 2 (cs := []) (σ' := (23, [some (.int 4)], [.int 6, .int 4], S, I, J, 0, 0)) rfl trivial ?_
      refine r_icmp okX6_operands rfl (fun (h23 : (4 : Int32) = (6 : Int32)) => ?_) (fun (h23 : ¬ (4 : Int32) = (6 : Int32)) => ?_)
      · exact absurd h23 (by decide)
      · refine r_run okX6_operands 2 (cs := []) (σ' := (29, [some (.int 4)], [.int 47, .int 4], S, I, J, 0, 0)) rfl trivial ?_
        refine r_icmp okX6_operands rfl (fun (h29 : ¬ (4 : Int32) = (47 : Int32)) => ?_) (fun h290 => ?_)
        · refine r_run okX6_operands 1 (cs := []) (σ' := (37, [some (.int 4)], [.int 2], S, I, J, 0, 0)) rfl trivial ?_
          refine r_iret okX6_operands rfl rfl rfl (Nat.le_refl _) (Nat.le_refl _) ?_
          exact ⟨rfl, rfl, rfl, rfl⟩
        · have h29 : (4 : Int32) = (47 : Int32) := Classical.not_not.mp h290
          exact absurd h29 (by decide)
    · exact absurd h9 (by decide)
theorem o_opsA (γ : GE) {S : List Sh} {I : AI} {J : AJ} {q : Nat} (hq : q < 9) : Ct γ mX6_operands 0 0 0 [.int (nI (7 + q))] S I J (rI 0 S I J) := by
  refine ct_of okX6_operands (L := [some (.int (nI (7 + q)))]) (Nat.le_of_ble_eq_true rfl) rfl ?_
  refine r_run okX6_operands 2 (cs := []) (σ' := (3, [some (.int (nI (7 + q)))], [.int 16, .int (nI (7 + q))], S, I, J, 0, 0)) rfl trivial ?_
  refine r_icmp okX6_operands rfl (fun (h3 : (nI (7 + q)) = (16 : Int32)) => ?_) (fun (h3 : ¬ (nI (7 + q)) = (16 : Int32)) => ?_)
  · exact absurd (nI_inj (a := 7 + q) (b := 16) (by omega) (by decide) h3) (by omega)
  · refine r_run okX6_operands 2 (cs := []) (σ' := (9, [some (.int (nI (7 + q)))], [.int 7, .int (nI (7 + q))], S, I, J, 0, 0)) rfl trivial ?_
    refine r_icmp okX6_operands rfl (fun (h9 : (nI (7 + q)) < (7 : Int32)) => ?_) (fun (h9 : ¬ (nI (7 + q)) < (7 : Int32)) => ?_)
    · exact absurd h9 (nI_nlt (a := 7 + q) (b := 7) (by omega) (by omega))
    · refine r_run okX6_operands 2 (cs := []) (σ' := (15, [some (.int (nI (7 + q)))], [.int 15, .int (nI (7 + q))], S, I, J, 0, 0)) rfl trivial ?_
      refine r_icmp okX6_operands rfl (fun (h15 : (15 : Int32) < (nI (7 + q))) => ?_) (fun (h15 : ¬ (15 : Int32) < (nI (7 + q))) => ?_)
      · exact absurd h15 (nI_nlt (a := 15) (b := 7 + q) (by omega) (by decide))
      · refine r_run okX6_operands 1 (cs := []) (σ' := (19, [some (.int (nI (7 + q)))], [.int 0], S, I, J, 0, 0)) rfl trivial ?_
        refine r_iret okX6_operands rfl rfl rfl (Nat.le_refl _) (Nat.le_refl _) ?_
        exact ⟨rfl, rfl, rfl, rfl⟩
theorem o_join43 (γ : GE) {S : List Sh} {I : AI} {J : AJ} (x y : Int32) : Ct γ mX6_join 0 0 0 [.int 43, .int x, .int y] S I J (rI (x + y) S I J) := by
  refine ct_of okX6_join (L := [some (.int 43), some (.int x), some (.int y)]) (Nat.le_of_ble_eq_true rfl) rfl ?_
  refine r_run okX6_join 1 (cs := []) (σ' := (1, [some (.int 43), some (.int x), some (.int y)], [.int 43], S, I, J, 0, 0)) rfl trivial ?_
  refine r_look okX6_join rfl (by decide) (off := 75) rfl (tgt := 76) rfl ?_
  show Rj _ _ _ _ _ _ (76, [some (.int 43), some (.int x), some (.int y)], [], S, I, J, 0, 0)
  refine r_run okX6_join 3 (cs := []) (σ' := (79, [some (.int 43), some (.int x), some (.int y)], [.int (x + y)], S, I, J, 0, 0)) rfl trivial ?_
  refine r_iret okX6_join rfl rfl rfl (Nat.le_refl _) (Nat.le_refl _) ?_
  exact ⟨rfl, rfl, rfl, rfl⟩
theorem o_join45 (γ : GE) {S : List Sh} {I : AI} {J : AJ} (x y : Int32) : Ct γ mX6_join 0 0 0 [.int 45, .int x, .int y] S I J (rI (x - y) S I J) := by
  refine ct_of okX6_join (L := [some (.int 45), some (.int x), some (.int y)]) (Nat.le_of_ble_eq_true rfl) rfl ?_
  refine r_run okX6_join 1 (cs := []) (σ' := (1, [some (.int 45), some (.int x), some (.int y)], [.int 45], S, I, J, 0, 0)) rfl trivial ?_
  refine r_look okX6_join rfl (by decide) (off := 79) rfl (tgt := 80) rfl ?_
  show Rj _ _ _ _ _ _ (80, [some (.int 45), some (.int x), some (.int y)], [], S, I, J, 0, 0)
  refine r_run okX6_join 3 (cs := []) (σ' := (83, [some (.int 45), some (.int x), some (.int y)], [.int (x - y)], S, I, J, 0, 0)) rfl trivial ?_
  refine r_iret okX6_join rfl rfl rfl (Nat.le_refl _) (Nat.le_refl _) ?_
  exact ⟨rfl, rfl, rfl, rfl⟩
theorem o_join42 (γ : GE) {S : List Sh} {I : AI} {J : AJ} (x y : Int32) : Ct γ mX6_join 0 0 0 [.int 42, .int x, .int y] S I J (rI (x * y) S I J) := by
  refine ct_of okX6_join (L := [some (.int 42), some (.int x), some (.int y)]) (Nat.le_of_ble_eq_true rfl) rfl ?_
  refine r_run okX6_join 1 (cs := []) (σ' := (1, [some (.int 42), some (.int x), some (.int y)], [.int 42], S, I, J, 0, 0)) rfl trivial ?_
  refine r_look okX6_join rfl (by decide) (off := 83) rfl (tgt := 84) rfl ?_
  show Rj _ _ _ _ _ _ (84, [some (.int 42), some (.int x), some (.int y)], [], S, I, J, 0, 0)
  refine r_run okX6_join 3 (cs := []) (σ' := (87, [some (.int 42), some (.int x), some (.int y)], [.int (x * y)], S, I, J, 0, 0)) rfl trivial ?_
  refine r_iret okX6_join rfl rfl rfl (Nat.le_refl _) (Nat.le_refl _) ?_
  exact ⟨rfl, rfl, rfl, rfl⟩
theorem o_join60 (γ : GE) {S : List Sh} {I : AI} {J : AJ} (x y : Int32) : Ct γ mX6_join 0 0 0 [.int 60, .int x, .int y] S I J (rI (if x < y then 1 else 0) S I J) := by
  refine ct_of okX6_join (L := [some (.int 60), some (.int x), some (.int y)]) (Nat.le_of_ble_eq_true rfl) rfl ?_
  refine r_run okX6_join 1 (cs := []) (σ' := (1, [some (.int 60), some (.int x), some (.int y)], [.int 60], S, I, J, 0, 0)) rfl trivial ?_
  refine r_look okX6_join rfl (by decide) (off := 87) rfl (tgt := 88) rfl ?_
  show Rj _ _ _ _ _ _ (88, [some (.int 60), some (.int x), some (.int y)], [], S, I, J, 0, 0)
  refine r_run okX6_join 2 (cs := []) (σ' := (90, [some (.int 60), some (.int x), some (.int y)], [.int y, .int x], S, I, J, 0, 0)) rfl trivial ?_
  refine r_icmp okX6_join rfl (fun (h90 : y ≤ x) => ?_) (fun (h90 : ¬ y ≤ x) => ?_)
  · refine r_run okX6_join 1 (cs := []) (σ' := (98, [some (.int 60), some (.int x), some (.int y)], [.int 0], S, I, J, 0, 0)) rfl trivial ?_
    refine r_iret okX6_join rfl rfl rfl (Nat.le_refl _) (Nat.le_refl _) ?_
    exact ⟨by rw [if_neg (Int32.not_lt.mpr h90)], rfl, rfl, rfl⟩
  · refine r_run okX6_join 2 (cs := []) (σ' := (98, [some (.int 60), some (.int x), some (.int y)], [.int 1], S, I, J, 0, 0)) rfl trivial ?_
    refine r_iret okX6_join rfl rfl rfl (Nat.le_refl _) (Nat.le_refl _) ?_
    exact ⟨by rw [if_pos (Int32.not_le.mp h90)], rfl, rfl, rfl⟩
theorem o_join61 (γ : GE) {S : List Sh} {I : AI} {J : AJ} (x y : Int32) : Ct γ mX6_join 0 0 0 [.int 61, .int x, .int y] S I J (rI (if x = y then 1 else 0) S I J) := by
  refine ct_of okX6_join (L := [some (.int 61), some (.int x), some (.int y)]) (Nat.le_of_ble_eq_true rfl) rfl ?_
  refine r_run okX6_join 1 (cs := []) (σ' := (1, [some (.int 61), some (.int x), some (.int y)], [.int 61], S, I, J, 0, 0)) rfl trivial ?_
  refine r_look okX6_join rfl (by decide) (off := 98) rfl (tgt := 99) rfl ?_
  show Rj _ _ _ _ _ _ (99, [some (.int 61), some (.int x), some (.int y)], [], S, I, J, 0, 0)
  refine r_run okX6_join 2 (cs := []) (σ' := (101, [some (.int 61), some (.int x), some (.int y)], [.int y, .int x], S, I, J, 0, 0)) rfl trivial ?_
  refine r_icmp okX6_join rfl (fun (h101 : ¬ x = y) => ?_) (fun h1010 => ?_)
  · refine r_run okX6_join 1 (cs := []) (σ' := (109, [some (.int 61), some (.int x), some (.int y)], [.int 0], S, I, J, 0, 0)) rfl trivial ?_
    refine r_iret okX6_join rfl rfl rfl (Nat.le_refl _) (Nat.le_refl _) ?_
    exact ⟨by rw [if_neg h101], rfl, rfl, rfl⟩
  · have h101 : x = y := Classical.not_not.mp h1010
    refine r_run okX6_join 2 (cs := []) (σ' := (109, [some (.int 61), some (.int x), some (.int y)], [.int 1], S, I, J, 0, 0)) rfl trivial ?_
    refine r_iret okX6_join rfl rfl rfl (Nat.le_refl _) (Nat.le_refl _) ?_
    exact ⟨by rw [if_pos h101], rfl, rfl, rfl⟩
theorem o_join62 (γ : GE) {S : List Sh} {I : AI} {J : AJ} (x y : Int32) : Ct γ mX6_join 0 0 0 [.int 62, .int x, .int y] S I J (rI (if y < x then 1 else 0) S I J) := by
  refine ct_of okX6_join (L := [some (.int 62), some (.int x), some (.int y)]) (Nat.le_of_ble_eq_true rfl) rfl ?_
  refine r_run okX6_join 1 (cs := []) (σ' := (1, [some (.int 62), some (.int x), some (.int y)], [.int 62], S, I, J, 0, 0)) rfl trivial ?_
  refine r_look okX6_join rfl (by decide) (off := 109) rfl (tgt := 110) rfl ?_
  show Rj _ _ _ _ _ _ (110, [some (.int 62), some (.int x), some (.int y)], [], S, I, J, 0, 0)
  refine r_run okX6_join 2 (cs := []) (σ' := (112, [some (.int 62), some (.int x), some (.int y)], [.int y, .int x], S, I, J, 0, 0)) rfl trivial ?_
  refine r_icmp okX6_join rfl (fun (h112 : x ≤ y) => ?_) (fun (h112 : ¬ x ≤ y) => ?_)
  · refine r_run okX6_join 1 (cs := []) (σ' := (120, [some (.int 62), some (.int x), some (.int y)], [.int 0], S, I, J, 0, 0)) rfl trivial ?_
    refine r_iret okX6_join rfl rfl rfl (Nat.le_refl _) (Nat.le_refl _) ?_
    exact ⟨by rw [if_neg (Int32.not_lt.mpr h112)], rfl, rfl, rfl⟩
  · refine r_run okX6_join 2 (cs := []) (σ' := (120, [some (.int 62), some (.int x), some (.int y)], [.int 1], S, I, J, 0, 0)) rfl trivial ?_
    refine r_iret okX6_join rfl rfl rfl (Nat.le_refl _) (Nat.le_refl _) ?_
    exact ⟨by rw [if_pos (Int32.not_le.mp h112)], rfl, rfl, rfl⟩
theorem o_join5 (γ : GE) {S : List Sh} {I : AI} {J : AJ} (x y : Int32) : Ct γ mX6_join 0 0 0 [.int 5, .int x, .int y] S I J (rI (x &&& y) S I J) := by
  refine ct_of okX6_join (L := [some (.int 5), some (.int x), some (.int y)]) (Nat.le_of_ble_eq_true rfl) rfl ?_
  refine r_run okX6_join 1 (cs := []) (σ' := (1, [some (.int 5), some (.int x), some (.int y)], [.int 5], S, I, J, 0, 0)) rfl trivial ?_
  refine r_look okX6_join rfl (by decide) (off := 120) rfl (tgt := 121) rfl ?_
  show Rj _ _ _ _ _ _ (121, [some (.int 5), some (.int x), some (.int y)], [], S, I, J, 0, 0)
  refine r_run okX6_join 3 (cs := []) (σ' := (124, [some (.int 5), some (.int x), some (.int y)], [.int (x &&& y)], S, I, J, 0, 0)) rfl trivial ?_
  refine r_iret okX6_join rfl rfl rfl (Nat.le_refl _) (Nat.le_refl _) ?_
  exact ⟨rfl, rfl, rfl, rfl⟩
theorem o_join4 (γ : GE) {S : List Sh} {I : AI} {J : AJ} (x y : Int32) : Ct γ mX6_join 0 0 0 [.int 4, .int x, .int y] S I J (rI (x ||| y) S I J) := by
  refine ct_of okX6_join (L := [some (.int 4), some (.int x), some (.int y)]) (Nat.le_of_ble_eq_true rfl) rfl ?_
  refine r_run okX6_join 1 (cs := []) (σ' := (1, [some (.int 4), some (.int x), some (.int y)], [.int 4], S, I, J, 0, 0)) rfl trivial ?_
  refine r_look okX6_join rfl (by decide) (off := 124) rfl (tgt := 125) rfl ?_
  show Rj _ _ _ _ _ _ (125, [some (.int 4), some (.int x), some (.int y)], [], S, I, J, 0, 0)
  refine r_run okX6_join 3 (cs := []) (σ' := (128, [some (.int 4), some (.int x), some (.int y)], [.int (x ||| y)], S, I, J, 0, 0)) rfl trivial ?_
  refine r_iret okX6_join rfl rfl rfl (Nat.le_refl _) (Nat.le_refl _) ?_
  exact ⟨rfl, rfl, rfl, rfl⟩
set_option maxHeartbeats 2000000 in
theorem lp_rk79 (γ : GE) {b c : Bool} {I : AI} {J : AJ} (h : Nat → Int32) (hh : ∀ q, q < 9 → I 76 q = h q) (f v : Int32) (z : Bool) {e : Nat} (he : e ≤ 800) : ∀ (c0 : Cd) (k : Nat) (st : List Int32) (t : List Bool) (g : Nat → Int32), k + c0.length = e → t.length ≤ 32 → StB st t → cdT I 79 k c0 → StL g st → tyCd c0 t = some [z] → evC h c0 st = [v] → Rj γ mX6_reckon 1 0 0 (fun rt S' I' J' => some (.int v) = rt ∧ (SS b c) = S' ∧ (∃ g, I' = sQ 86 I g) ∧ J = J') (6, [some (.ref 79), some (.int f), some (.int (nI e)), some (.ref 76), some (.int (nI st.length)), some (.int (nI k)), none, none], [], (SS b c), (sQ 86 I g), J, 0, 0) := by
  intro c0
  induction c0 with
  | nil =>
    intro k st t g hk ht hB hc hL hty hev
    have hev : st = [v] := hev
    subst hev
    have hk : k = e := hk
    refine r_run okX6_reckon 2 (cs := []) (σ' := (9, [some (.ref 79), some (.int f), some (.int (nI e)), some (.ref 76), some (.int (nI 1)), some (.int (nI k)), none, none], [.int (nI e), .int (nI k)], (SS b c), (sQ 86 I g), J, 0, 0)) rfl trivial ?_
    refine r_icmp okX6_reckon rfl (fun (h9 : (nI e) ≤ (nI k)) => ?_) (fun (h9 : ¬ (nI e) ≤ (nI k)) => ?_)
    · refine r_run okX6_reckon 2 (cs := []) (σ' := (212, [some (.ref 79), some (.int f), some (.int (nI e)), some (.ref 76), some (.int (nI 1)), some (.int (nI k)), none, none], [.int 1, .int (nI 1)], (SS b c), (sQ 86 I g), J, 0, 0)) rfl trivial ?_
      refine r_icmp okX6_reckon rfl (fun (h212 : ¬ (nI 1) = (1 : Int32)) => ?_) (fun h2120 => ?_)
      · exact absurd rfl h212
      · have h212 : (nI 1) = (1 : Int32) := Classical.not_not.mp h2120
        refine r_run okX6_reckon 5 (cs := [vp_in 0 32]) (σ' := (225, [some (.ref 79), some (.int f), some (.int (nI e)), some (.ref 76), some (.int (nI 1)), some (.int (nI k)), none, none], [.int (g ((0 : Int32).toNatClampNeg))], (SS b c), (sQ 86 I g), J, 0, 0)) rfl ⟨(vin (a := 0) (by decide) (by decide)), trivial⟩ ?_
        refine r_iret okX6_reckon rfl rfl rfl (Nat.le_refl _) (Nat.le_refl _) ?_
        exact ⟨by rw [show g ((0 : Int32).toNatClampNeg) = v from hL.1], rfl, ⟨g, rfl⟩, rfl⟩
    · exact absurd (nI_le (by omega) (by omega)) h9
  | cons p c0 ih =>
    intro k st t g hk ht hB hc hL hty hev
    rw [List.length_cons] at hk
    obtain ⟨hc1, hc2, hc3⟩ := hc
    have ck : (nI k).toNatClampNeg = k := nI_clamp (by omega)
    obtain ⟨t1, hs, ht1, hty1⟩ : ∃ t1, tyS p t = some t1 ∧ t1.length ≤ 32 ∧ tyCd c0 t1 = some [z] := by
      unfold tyCd at hty
      cases q : tyS p t with
      | none => rw [q] at hty; cases hty
      | some t1 =>
        rw [q] at hty
        by_cases hl : t1.length ≤ 32
        · simp only [hl, if_true] at hty; exact ⟨t1, rfl, hl, hty⟩
        · simp only [hl, if_false] at hty; cases hty
    obtain ⟨o1, o2⟩ := p
    have hev : evC h c0 (aStp h (o1, o2) st) = [v] := hev
    rcases tyS_c hs with ⟨e1, e2⟩ | ⟨e1, e3, e2⟩ | ⟨e1, hnz, r0, er, e2⟩ | ⟨e1, r0, er, e2⟩ | ⟨e1, r0, er, e2⟩ | ⟨e1, r0, er, e2⟩ | ⟨e1, r0, er, e2⟩
    · have e1 : o1 = 0 := e1
      subst e1
      subst e2
      have hc1 : I 80 k = 16 := hc1
      have hc2 : I 81 k = o2 := hc2
      have hln := StB_len hB
      have h32 : st.length + 1 ≤ 32 := by rw [hln]; exact ht1
      have cs1 : (nI st.length).toNatClampNeg = st.length := nI_clamp (by omega)
      refine r_run okX6_reckon 2 (cs := []) (σ' := (9, [some (.ref 79), some (.int f), some (.int (nI e)), some (.ref 76), some (.int (nI st.length)), some (.int (nI k)), none, none], [.int (nI e), .int (nI k)], (SS b c), (sQ 86 I g), J, 0, 0)) rfl trivial ?_
      refine r_icmp okX6_reckon rfl (fun (h9 : (nI e) ≤ (nI k)) => ?_) (fun (h9 : ¬ (nI e) ≤ (nI k)) => ?_)
      · exact absurd h9 (nI_ge (by omega) (by omega))
      · refine r_run okX6_reckon 6 (cs := [vp_in (nI k) 800]) (σ' := (23, [some (.ref 79), some (.int f), some (.int (nI e)), some (.ref 76), some (.int (nI st.length)), some (.int (nI k)), some (.int (I 80 ((nI k).toNatClampNeg))), none], [.int (I 80 ((nI k).toNatClampNeg))], (SS b c), (sQ 86 I g), J, 0, 0)) rfl ⟨(vin (by omega) (by decide)), trivial⟩ ?_
        simp only [ck, hc1]
        show Rj _ _ _ _ _ _ (23, [some (.ref 79), some (.int f), some (.int (nI e)), some (.ref 76), some (.int (nI st.length)), some (.int (nI k)), some (.int 16), none], [.int 16], (SS b c), (sQ 86 I g), J, 0, 0)
        refine r_callS okX6_reckon okX6_operands [.int 16] [] rfl rfl rfl kkX6_operands rfl rfl (by decide) (by decide) ⟨Nat.le_refl _, Nat.le_refl _⟩ (Nat.le_of_ble_eq_true rfl) (o_ops16 γ) (fun v1 S1 I1 J1 hp => ?_)
        obtain ⟨rfl, rfl, rfl, rfl⟩ := hp
        show Rj _ _ _ _ _ _ (26, [some (.ref 79), some (.int f), some (.int (nI e)), some (.ref 76), some (.int (nI st.length)), some (.int (nI k)), some (.int 16), none], [.int 0], (SS b c), (sQ 86 I g), J, 0, 0)
        refine r_run okX6_reckon 3 (cs := []) (σ' := (32, [some (.ref 79), some (.int f), some (.int (nI e)), some (.ref 76), some (.int (nI st.length)), some (.int (nI k)), some (.int 16), some (.int 0)], [.int 0, .int (nI st.length)], (SS b c), (sQ 86 I g), J, 0, 0)) rfl trivial ?_
        refine r_icmp okX6_reckon rfl (fun (h32 : (nI st.length) < (0 : Int32)) => ?_) (fun (h32 : ¬ (nI st.length) < (0 : Int32)) => ?_)
        · exact absurd h32 (nI_nlt (a := st.length) (b := 0) (by omega) (by omega))
        · refine r_run okX6_reckon 4 (cs := []) (σ' := (42, [some (.ref 79), some (.int f), some (.int (nI e)), some (.ref 76), some (.int (nI st.length)), some (.int (nI k)), some (.int 16), some (.int 0)], [.int 32, .int ((nI st.length) - 0)], (SS b c), (sQ 86 I g), J, 0, 0)) rfl trivial ?_
          simp only [Int32.sub_zero]
          show Rj _ _ _ _ _ _ (42, [some (.ref 79), some (.int f), some (.int (nI e)), some (.ref 76), some (.int (nI st.length)), some (.int (nI k)), some (.int 16), some (.int 0)], [.int 32, .int (nI st.length)], (SS b c), (sQ 86 I g), J, 0, 0)
          refine r_icmp okX6_reckon rfl (fun (h42 : (nI st.length) < (32 : Int32)) => ?_) (fun (h42 : ¬ (nI st.length) < (32 : Int32)) => ?_)
          · refine r_run okX6_reckon 6 (cs := []) (σ' := (58, [some (.ref 79), some (.int f), some (.int (nI e)), some (.ref 76), some (.int ((nI st.length) - 0)), some (.int (nI k)), some (.int 16), some (.int 0)], [.int 16, .int 16], (SS b c), (sQ 86 I g), J, 0, 0)) rfl trivial ?_
            simp only [Int32.sub_zero]
            show Rj _ _ _ _ _ _ (58, [some (.ref 79), some (.int f), some (.int (nI e)), some (.ref 76), some (.int (nI st.length)), some (.int (nI k)), some (.int 16), some (.int 0)], [.int 16, .int 16], (SS b c), (sQ 86 I g), J, 0, 0)
            refine r_icmp okX6_reckon rfl (fun (h58 : ¬ (16 : Int32) = (16 : Int32)) => ?_) (fun h580 => ?_)
            · exact absurd h58 (by decide)
            · have h58 : (16 : Int32) = (16 : Int32) := Classical.not_not.mp h580
              refine r_run okX6_reckon 12 (cs := [vp_in (nI k) 800, vp_in (nI st.length) 32]) (σ' := (6, [some (.ref 79), some (.int f), some (.int (nI e)), some (.ref 76), some (.int ((nI st.length) + 1)), some (.int ((nI k) + 1)), some (.int 16), some (.int 0)], [], (SS b c), (upI (sQ 86 I g) 86 ((nI st.length).toNatClampNeg) (I 81 ((nI k).toNatClampNeg))), J, 0, 0)) rfl ⟨(vin (by omega) (by decide)), (vin (by omega) (by decide)), trivial⟩ ?_
              simp only [ck, hc2, cs1]
              show Rj _ _ _ _ _ _ (6, [some (.ref 79), some (.int f), some (.int (nI e)), some (.ref 76), some (.int ((nI st.length) + 1)), some (.int ((nI k) + 1)), some (.int 16), some (.int 0)], [], (SS b c), (upI (sQ 86 I g) 86 st.length o2), J, 0, 0)
              rw [sQ_u, nI_eq1, nI_eq1]
              refine r_weak (L' := [some (.ref 79), some (.int f), some (.int (nI e)), some (.ref 76), some (.int (nI (st.length + 1))), some (.int (nI (k + 1))), none, none]) ⟨rfl, rfl, rfl, rfl, rfl, rfl, trivial⟩ ?_
              refine ih (k + 1) (o2 :: st) (false :: t) _ (by omega) ht1 ⟨(fun q => by cases q), hB⟩ hc3 ⟨upd_t, StL_u (Nat.le_refl _) hL⟩ hty1 ?_
              refine Eq.trans (congrArg (evC h c0) ?_) hev
              exact Eq.symm rfl
          · exact absurd (nI_lt (a := st.length) (b := 32) (by omega) (by decide)) h42
    · have e1 : o1 = 1 := e1
      subst e1
      subst e2
      obtain ⟨q, hq, e3⟩ := e3
      have e3 : o2 = nI q := e3
      subst e3
      have hc1 : I 80 k = nI (7 + q) := hc1.trans (nI_ad 7 q)
      have e7 : nI (7 + q) - 7 = nI q := by rw [show (7 : Int32) = nI 7 from rfl, pk_sub (by omega), Nat.add_sub_cancel_left]
      have cq : (nI q).toNatClampNeg = q := nI_clamp (by omega)
      have h76 := hh q hq
      have hln := StB_len hB
      have h32 : st.length + 1 ≤ 32 := by rw [hln]; exact ht1
      have cs1 : (nI st.length).toNatClampNeg = st.length := nI_clamp (by omega)
      refine r_run okX6_reckon 2 (cs := []) (σ' := (9, [some (.ref 79), some (.int f), some (.int (nI e)), some (.ref 76), some (.int (nI st.length)), some (.int (nI k)), none, none], [.int (nI e), .int (nI k)], (SS b c), (sQ 86 I g), J, 0, 0)) rfl trivial ?_
      refine r_icmp okX6_reckon rfl (fun (h9 : (nI e) ≤ (nI k)) => ?_) (fun (h9 : ¬ (nI e) ≤ (nI k)) => ?_)
      · exact absurd h9 (nI_ge (by omega) (by omega))
      · refine r_run okX6_reckon 6 (cs := [vp_in (nI k) 800]) (σ' := (23, [some (.ref 79), some (.int f), some (.int (nI e)), some (.ref 76), some (.int (nI st.length)), some (.int (nI k)), some (.int (I 80 ((nI k).toNatClampNeg))), none], [.int (I 80 ((nI k).toNatClampNeg))], (SS b c), (sQ 86 I g), J, 0, 0)) rfl ⟨(vin (by omega) (by decide)), trivial⟩ ?_
        simp only [ck, hc1]
        show Rj _ _ _ _ _ _ (23, [some (.ref 79), some (.int f), some (.int (nI e)), some (.ref 76), some (.int (nI st.length)), some (.int (nI k)), some (.int (nI (7 + q))), none], [.int (nI (7 + q))], (SS b c), (sQ 86 I g), J, 0, 0)
        refine r_callS okX6_reckon okX6_operands [.int (nI (7 + q))] [] rfl rfl rfl kkX6_operands rfl rfl (by decide) (by decide) ⟨Nat.le_refl _, Nat.le_refl _⟩ (Nat.le_of_ble_eq_true rfl) (o_opsA γ hq) (fun v1 S1 I1 J1 hp => ?_)
        obtain ⟨rfl, rfl, rfl, rfl⟩ := hp
        show Rj _ _ _ _ _ _ (26, [some (.ref 79), some (.int f), some (.int (nI e)), some (.ref 76), some (.int (nI st.length)), some (.int (nI k)), some (.int (nI (7 + q))), none], [.int 0], (SS b c), (sQ 86 I g), J, 0, 0)
        refine r_run okX6_reckon 3 (cs := []) (σ' := (32, [some (.ref 79), some (.int f), some (.int (nI e)), some (.ref 76), some (.int (nI st.length)), some (.int (nI k)), some (.int (nI (7 + q))), some (.int 0)], [.int 0, .int (nI st.length)], (SS b c), (sQ 86 I g), J, 0, 0)) rfl trivial ?_
        refine r_icmp okX6_reckon rfl (fun (h32 : (nI st.length) < (0 : Int32)) => ?_) (fun (h32 : ¬ (nI st.length) < (0 : Int32)) => ?_)
        · exact absurd h32 (nI_nlt (a := st.length) (b := 0) (by omega) (by omega))
        · refine r_run okX6_reckon 4 (cs := []) (σ' := (42, [some (.ref 79), some (.int f), some (.int (nI e)), some (.ref 76), some (.int (nI st.length)), some (.int (nI k)), some (.int (nI (7 + q))), some (.int 0)], [.int 32, .int ((nI st.length) - 0)], (SS b c), (sQ 86 I g), J, 0, 0)) rfl trivial ?_
          simp only [Int32.sub_zero]
          show Rj _ _ _ _ _ _ (42, [some (.ref 79), some (.int f), some (.int (nI e)), some (.ref 76), some (.int (nI st.length)), some (.int (nI k)), some (.int (nI (7 + q))), some (.int 0)], [.int 32, .int (nI st.length)], (SS b c), (sQ 86 I g), J, 0, 0)
          refine r_icmp okX6_reckon rfl (fun (h42 : (nI st.length) < (32 : Int32)) => ?_) (fun (h42 : ¬ (nI st.length) < (32 : Int32)) => ?_)
          · refine r_run okX6_reckon 6 (cs := []) (σ' := (58, [some (.ref 79), some (.int f), some (.int (nI e)), some (.ref 76), some (.int ((nI st.length) - 0)), some (.int (nI k)), some (.int (nI (7 + q))), some (.int 0)], [.int 16, .int (nI (7 + q))], (SS b c), (sQ 86 I g), J, 0, 0)) rfl trivial ?_
            simp only [Int32.sub_zero]
            show Rj _ _ _ _ _ _ (58, [some (.ref 79), some (.int f), some (.int (nI e)), some (.ref 76), some (.int (nI st.length)), some (.int (nI k)), some (.int (nI (7 + q))), some (.int 0)], [.int 16, .int (nI (7 + q))], (SS b c), (sQ 86 I g), J, 0, 0)
            refine r_icmp okX6_reckon rfl (fun (h58 : ¬ (nI (7 + q)) = (16 : Int32)) => ?_) (fun h580 => ?_)
            · refine r_run okX6_reckon 1 (cs := []) (σ' := (80, [some (.ref 79), some (.int f), some (.int (nI e)), some (.ref 76), some (.int (nI st.length)), some (.int (nI k)), some (.int (nI (7 + q))), some (.int 0)], [.int 0], (SS b c), (sQ 86 I g), J, 0, 0)) rfl trivial ?_
              refine r_ifc okX6_reckon rfl (fun (h80 : ¬ (0 : Int32) = (0 : Int32)) => ?_) (fun h800 => ?_)
              · exact absurd h80 (by decide)
              · have h80 : (0 : Int32) = (0 : Int32) := Classical.not_not.mp h800
                refine r_run okX6_reckon 13 (cs := [vp_in ((nI (7 + q)) - 7) 9, vp_in (nI st.length) 32]) (σ' := (6, [some (.ref 79), some (.int f), some (.int (nI e)), some (.ref 76), some (.int ((nI st.length) + 1)), some (.int ((nI k) + 1)), some (.int (nI (7 + q))), some (.int 0)], [], (SS b c), (upI (sQ 86 I g) 86 ((nI st.length).toNatClampNeg) (I 76 (((nI (7 + q)) - 7).toNatClampNeg))), J, 0, 0)) rfl ⟨(by rw [e7]; exact vin hq (by decide)), (vin (by omega) (by decide)), trivial⟩ ?_
                simp only [cs1, e7, cq, h76]
                show Rj _ _ _ _ _ _ (6, [some (.ref 79), some (.int f), some (.int (nI e)), some (.ref 76), some (.int ((nI st.length) + 1)), some (.int ((nI k) + 1)), some (.int (nI (7 + q))), some (.int 0)], [], (SS b c), (upI (sQ 86 I g) 86 st.length (h q)), J, 0, 0)
                rw [sQ_u, nI_eq1, nI_eq1]
                refine r_weak (L' := [some (.ref 79), some (.int f), some (.int (nI e)), some (.ref 76), some (.int (nI (st.length + 1))), some (.int (nI (k + 1))), none, none]) ⟨rfl, rfl, rfl, rfl, rfl, rfl, trivial⟩ ?_
                refine ih (k + 1) ((h q) :: st) (false :: t) _ (by omega) ht1 ⟨(fun q => by cases q), hB⟩ hc3 ⟨upd_t, StL_u (Nat.le_refl _) hL⟩ hty1 ?_
                refine Eq.trans (congrArg (evC h c0) ?_) hev
                exact Eq.symm (by show (if (1 : Int32) = 5 then _ else mStp h _ st) = _; rw [if_neg (by decide)]; show h (nv (nI q)) :: st = _; rw [nv_nI (by omega)])
            · have h58 : (nI (7 + q)) = (16 : Int32) := Classical.not_not.mp h580
              exact absurd (nI_inj (a := 7 + q) (b := 16) (by omega) (by decide) h58) (by omega)
          · exact absurd (nI_lt (a := st.length) (b := 32) (by omega) (by decide)) h42
    · have e1 : o1 = 5 := e1
      subst e1
      subst e2
      have hc1 : I 80 k = 47 := hc1
      have hc2 : I 81 k = o2 := hc2
      have hnz : ¬ o2 = 0 := hnz
      subst er
      obtain ⟨x, r, rfl, bx, hBr⟩ := StB_c hB
      obtain ⟨hx, hLr⟩ := hL
      have hln := StB_len hBr
      rw [List.length_cons] at ht ht1
      have cs1 : (nI r.length).toNatClampNeg = r.length := nI_clamp (by omega)
      have esub : nI (r.length + 1) - 1 = nI r.length := nI_pred _
      refine r_run okX6_reckon 2 (cs := []) (σ' := (9, [some (.ref 79), some (.int f), some (.int (nI e)), some (.ref 76), some (.int (nI (r.length + 1))), some (.int (nI k)), none, none], [.int (nI e), .int (nI k)], (SS b c), (sQ 86 I g), J, 0, 0)) rfl trivial ?_
      refine r_icmp okX6_reckon rfl (fun (h9 : (nI e) ≤ (nI k)) => ?_) (fun (h9 : ¬ (nI e) ≤ (nI k)) => ?_)
      · exact absurd h9 (nI_ge (by omega) (by omega))
      · refine r_run okX6_reckon 6 (cs := [vp_in (nI k) 800]) (σ' := (23, [some (.ref 79), some (.int f), some (.int (nI e)), some (.ref 76), some (.int (nI (r.length + 1))), some (.int (nI k)), some (.int (I 80 ((nI k).toNatClampNeg))), none], [.int (I 80 ((nI k).toNatClampNeg))], (SS b c), (sQ 86 I g), J, 0, 0)) rfl ⟨(vin (by omega) (by decide)), trivial⟩ ?_
        simp only [ck, hc1]
        show Rj _ _ _ _ _ _ (23, [some (.ref 79), some (.int f), some (.int (nI e)), some (.ref 76), some (.int (nI (r.length + 1))), some (.int (nI k)), some (.int 47), none], [.int 47], (SS b c), (sQ 86 I g), J, 0, 0)
        refine r_callS okX6_reckon okX6_operands [.int 47] [] rfl rfl rfl kkX6_operands rfl rfl (by decide) (by decide) ⟨Nat.le_refl _, Nat.le_refl _⟩ (Nat.le_of_ble_eq_true rfl) (o_ops47 γ) (fun v1 S1 I1 J1 hp => ?_)
        obtain ⟨rfl, rfl, rfl, rfl⟩ := hp
        show Rj _ _ _ _ _ _ (26, [some (.ref 79), some (.int f), some (.int (nI e)), some (.ref 76), some (.int (nI (r.length + 1))), some (.int (nI k)), some (.int 47), none], [.int 1], (SS b c), (sQ 86 I g), J, 0, 0)
        refine r_run okX6_reckon 3 (cs := []) (σ' := (32, [some (.ref 79), some (.int f), some (.int (nI e)), some (.ref 76), some (.int (nI (r.length + 1))), some (.int (nI k)), some (.int 47), some (.int 1)], [.int 1, .int (nI (r.length + 1))], (SS b c), (sQ 86 I g), J, 0, 0)) rfl trivial ?_
        refine r_icmp okX6_reckon rfl (fun (h32 : (nI (r.length + 1)) < (1 : Int32)) => ?_) (fun (h32 : ¬ (nI (r.length + 1)) < (1 : Int32)) => ?_)
        · exact absurd h32 (nI_nlt (a := r.length + 1) (b := 1) (by omega) (by omega))
        · refine r_run okX6_reckon 4 (cs := []) (σ' := (42, [some (.ref 79), some (.int f), some (.int (nI e)), some (.ref 76), some (.int (nI (r.length + 1))), some (.int (nI k)), some (.int 47), some (.int 1)], [.int 32, .int ((nI (r.length + 1)) - 1)], (SS b c), (sQ 86 I g), J, 0, 0)) rfl trivial ?_
          simp only [esub]
          show Rj _ _ _ _ _ _ (42, [some (.ref 79), some (.int f), some (.int (nI e)), some (.ref 76), some (.int (nI (r.length + 1))), some (.int (nI k)), some (.int 47), some (.int 1)], [.int 32, .int (nI r.length)], (SS b c), (sQ 86 I g), J, 0, 0)
          refine r_icmp okX6_reckon rfl (fun (h42 : (nI r.length) < (32 : Int32)) => ?_) (fun (h42 : ¬ (nI r.length) < (32 : Int32)) => ?_)
          · refine r_run okX6_reckon 6 (cs := []) (σ' := (58, [some (.ref 79), some (.int f), some (.int (nI e)), some (.ref 76), some (.int ((nI (r.length + 1)) - 1)), some (.int (nI k)), some (.int 47), some (.int 1)], [.int 16, .int 47], (SS b c), (sQ 86 I g), J, 0, 0)) rfl trivial ?_
            simp only [esub]
            show Rj _ _ _ _ _ _ (58, [some (.ref 79), some (.int f), some (.int (nI e)), some (.ref 76), some (.int (nI r.length)), some (.int (nI k)), some (.int 47), some (.int 1)], [.int 16, .int 47], (SS b c), (sQ 86 I g), J, 0, 0)
            refine r_icmp okX6_reckon rfl (fun (h58 : ¬ (47 : Int32) = (16 : Int32)) => ?_) (fun h580 => ?_)
            · refine r_run okX6_reckon 1 (cs := []) (σ' := (80, [some (.ref 79), some (.int f), some (.int (nI e)), some (.ref 76), some (.int (nI r.length)), some (.int (nI k)), some (.int 47), some (.int 1)], [.int 1], (SS b c), (sQ 86 I g), J, 0, 0)) rfl trivial ?_
              refine r_ifc okX6_reckon rfl (fun (h80 : ¬ (1 : Int32) = (0 : Int32)) => ?_) (fun h800 => ?_)
              · refine r_run okX6_reckon 2 (cs := []) (σ' := (104, [some (.ref 79), some (.int f), some (.int (nI e)), some (.ref 76), some (.int (nI r.length)), some (.int (nI k)), some (.int 47), some (.int 1)], [.int 6, .int 47], (SS b c), (sQ 86 I g), J, 0, 0)) rfl trivial ?_
                refine r_icmp okX6_reckon rfl (fun (h104 : ¬ (47 : Int32) = (6 : Int32)) => ?_) (fun h1040 => ?_)
                · refine r_run okX6_reckon 2 (cs := []) (σ' := (130, [some (.ref 79), some (.int f), some (.int (nI e)), some (.ref 76), some (.int (nI r.length)), some (.int (nI k)), some (.int 47), some (.int 1)], [.int 47, .int 47], (SS b c), (sQ 86 I g), J, 0, 0)) rfl trivial ?_
                  refine r_icmp okX6_reckon rfl (fun (h130 : ¬ (47 : Int32) = (47 : Int32)) => ?_) (fun h1300 => ?_)
                  · exact absurd h130 (by decide)
                  · have h130 : (47 : Int32) = (47 : Int32) := Classical.not_not.mp h1300
                    refine r_run okX6_reckon 7 (cs := [vp_in (nI k) 800]) (σ' := (146, [some (.ref 79), some (.int f), some (.int (nI e)), some (.ref 76), some (.int (nI r.length)), some (.int (nI k)), some (.int 47), some (.int 1)], [.int (I 81 ((nI k).toNatClampNeg)), .int (nI r.length), .ref 86], (SS b c), (sQ 86 I g), J, 0, 0)) rfl ⟨(vin (by omega) (by decide)), trivial⟩ ?_
                    simp only [ck, hc2]
                    show Rj _ _ _ _ _ _ (146, [some (.ref 79), some (.int f), some (.int (nI e)), some (.ref 76), some (.int (nI r.length)), some (.int (nI k)), some (.int 47), some (.int 1)], [.int o2, .int (nI r.length), .ref 86], (SS b c), (sQ 86 I g), J, 0, 0)
                    refine r_ifc okX6_reckon rfl (fun (h146 : ¬ o2 = (0 : Int32)) => ?_) (fun h1460 => ?_)
                    · refine r_run okX6_reckon 14 (cs := [vp_in (nI r.length) 32, vp_in (nI k) 800, ¬ (I 81 ((nI k).toNatClampNeg)) = 0, vp_in (nI r.length) 32]) (σ' := (6, [some (.ref 79), some (.int f), some (.int (nI e)), some (.ref 76), some (.int ((nI r.length) + 1)), some (.int ((nI k) + 1)), some (.int 47), some (.int 1)], [], (SS b c), (upI (sQ 86 I g) 86 ((nI r.length).toNatClampNeg) ((g ((nI r.length).toNatClampNeg)) / (I 81 ((nI k).toNatClampNeg)))), J, 0, 0)) rfl ⟨(vin (by omega) (by decide)), (vin (by omega) (by decide)), (by rw [ck, hc2]; exact hnz), (vin (by omega) (by decide)), trivial⟩ ?_
                      simp only [ck, hc2, cs1, hx]
                      show Rj _ _ _ _ _ _ (6, [some (.ref 79), some (.int f), some (.int (nI e)), some (.ref 76), some (.int ((nI r.length) + 1)), some (.int ((nI k) + 1)), some (.int 47), some (.int 1)], [], (SS b c), (upI (sQ 86 I g) 86 r.length (x / o2)), J, 0, 0)
                      rw [sQ_u, nI_eq1, nI_eq1]
                      refine r_weak (L' := [some (.ref 79), some (.int f), some (.int (nI e)), some (.ref 76), some (.int (nI (r.length + 1))), some (.int (nI (k + 1))), none, none]) ⟨rfl, rfl, rfl, rfl, rfl, rfl, trivial⟩ ?_
                      refine ih (k + 1) ((x / o2) :: r) (false :: r0) _ (by omega) (by rw [List.length_cons]; exact ht1) ⟨(fun q => by cases q), hBr⟩ hc3 ⟨upd_t, StL_u (Nat.le_refl _) hLr⟩ hty1 ?_
                      refine Eq.trans (congrArg (evC h c0) ?_) hev
                      exact Eq.symm rfl
                    · have h146 : o2 = (0 : Int32) := Classical.not_not.mp h1460
                      exact absurd h146 hnz
                · have h104 : (47 : Int32) = (6 : Int32) := Classical.not_not.mp h1040
                  exact absurd h104 (by decide)
              · have h80 : (1 : Int32) = (0 : Int32) := Classical.not_not.mp h800
                exact absurd h80 (by decide)
            · have h58 : (47 : Int32) = (16 : Int32) := Classical.not_not.mp h580
              exact absurd h58 (by decide)
          · exact absurd (nI_lt (a := r.length) (b := 32) (by omega) (by decide)) h42
    · have e1 : o1 = 9 := e1
      subst e1
      subst e2
      have hc1 : I 80 k = 6 := hc1
      subst er
      obtain ⟨x, r, rfl, bx, hBr⟩ := StB_c hB
      obtain ⟨hx, hLr⟩ := hL
      have hln := StB_len hBr
      rw [List.length_cons] at ht ht1
      have cs1 : (nI r.length).toNatClampNeg = r.length := nI_clamp (by omega)
      have esub : nI (r.length + 1) - 1 = nI r.length := nI_pred _
      have bx := bx rfl
      refine r_run okX6_reckon 2 (cs := []) (σ' := (9, [some (.ref 79), some (.int f), some (.int (nI e)), some (.ref 76), some (.int (nI (r.length + 1))), some (.int (nI k)), none, none], [.int (nI e), .int (nI k)], (SS b c), (sQ 86 I g), J, 0, 0)) rfl trivial ?_
      refine r_icmp okX6_reckon rfl (fun (h9 : (nI e) ≤ (nI k)) => ?_) (fun (h9 : ¬ (nI e) ≤ (nI k)) => ?_)
      · exact absurd h9 (nI_ge (by omega) (by omega))
      · refine r_run okX6_reckon 6 (cs := [vp_in (nI k) 800]) (σ' := (23, [some (.ref 79), some (.int f), some (.int (nI e)), some (.ref 76), some (.int (nI (r.length + 1))), some (.int (nI k)), some (.int (I 80 ((nI k).toNatClampNeg))), none], [.int (I 80 ((nI k).toNatClampNeg))], (SS b c), (sQ 86 I g), J, 0, 0)) rfl ⟨(vin (by omega) (by decide)), trivial⟩ ?_
        simp only [ck, hc1]
        show Rj _ _ _ _ _ _ (23, [some (.ref 79), some (.int f), some (.int (nI e)), some (.ref 76), some (.int (nI (r.length + 1))), some (.int (nI k)), some (.int 6), none], [.int 6], (SS b c), (sQ 86 I g), J, 0, 0)
        refine r_callS okX6_reckon okX6_operands [.int 6] [] rfl rfl rfl kkX6_operands rfl rfl (by decide) (by decide) ⟨Nat.le_refl _, Nat.le_refl _⟩ (Nat.le_of_ble_eq_true rfl) (o_ops6 γ) (fun v1 S1 I1 J1 hp => ?_)
        obtain ⟨rfl, rfl, rfl, rfl⟩ := hp
        show Rj _ _ _ _ _ _ (26, [some (.ref 79), some (.int f), some (.int (nI e)), some (.ref 76), some (.int (nI (r.length + 1))), some (.int (nI k)), some (.int 6), none], [.int 1], (SS b c), (sQ 86 I g), J, 0, 0)
        refine r_run okX6_reckon 3 (cs := []) (σ' := (32, [some (.ref 79), some (.int f), some (.int (nI e)), some (.ref 76), some (.int (nI (r.length + 1))), some (.int (nI k)), some (.int 6), some (.int 1)], [.int 1, .int (nI (r.length + 1))], (SS b c), (sQ 86 I g), J, 0, 0)) rfl trivial ?_
        refine r_icmp okX6_reckon rfl (fun (h32 : (nI (r.length + 1)) < (1 : Int32)) => ?_) (fun (h32 : ¬ (nI (r.length + 1)) < (1 : Int32)) => ?_)
        · exact absurd h32 (nI_nlt (a := r.length + 1) (b := 1) (by omega) (by omega))
        · refine r_run okX6_reckon 4 (cs := []) (σ' := (42, [some (.ref 79), some (.int f), some (.int (nI e)), some (.ref 76), some (.int (nI (r.length + 1))), some (.int (nI k)), some (.int 6), some (.int 1)], [.int 32, .int ((nI (r.length + 1)) - 1)], (SS b c), (sQ 86 I g), J, 0, 0)) rfl trivial ?_
          simp only [esub]
          show Rj _ _ _ _ _ _ (42, [some (.ref 79), some (.int f), some (.int (nI e)), some (.ref 76), some (.int (nI (r.length + 1))), some (.int (nI k)), some (.int 6), some (.int 1)], [.int 32, .int (nI r.length)], (SS b c), (sQ 86 I g), J, 0, 0)
          refine r_icmp okX6_reckon rfl (fun (h42 : (nI r.length) < (32 : Int32)) => ?_) (fun (h42 : ¬ (nI r.length) < (32 : Int32)) => ?_)
          · refine r_run okX6_reckon 6 (cs := []) (σ' := (58, [some (.ref 79), some (.int f), some (.int (nI e)), some (.ref 76), some (.int ((nI (r.length + 1)) - 1)), some (.int (nI k)), some (.int 6), some (.int 1)], [.int 16, .int 6], (SS b c), (sQ 86 I g), J, 0, 0)) rfl trivial ?_
            simp only [esub]
            show Rj _ _ _ _ _ _ (58, [some (.ref 79), some (.int f), some (.int (nI e)), some (.ref 76), some (.int (nI r.length)), some (.int (nI k)), some (.int 6), some (.int 1)], [.int 16, .int 6], (SS b c), (sQ 86 I g), J, 0, 0)
            refine r_icmp okX6_reckon rfl (fun (h58 : ¬ (6 : Int32) = (16 : Int32)) => ?_) (fun h580 => ?_)
            · refine r_run okX6_reckon 1 (cs := []) (σ' := (80, [some (.ref 79), some (.int f), some (.int (nI e)), some (.ref 76), some (.int (nI r.length)), some (.int (nI k)), some (.int 6), some (.int 1)], [.int 1], (SS b c), (sQ 86 I g), J, 0, 0)) rfl trivial ?_
              refine r_ifc okX6_reckon rfl (fun (h80 : ¬ (1 : Int32) = (0 : Int32)) => ?_) (fun h800 => ?_)
              · refine r_run okX6_reckon 2 (cs := []) (σ' := (104, [some (.ref 79), some (.int f), some (.int (nI e)), some (.ref 76), some (.int (nI r.length)), some (.int (nI k)), some (.int 6), some (.int 1)], [.int 6, .int 6], (SS b c), (sQ 86 I g), J, 0, 0)) rfl trivial ?_
                refine r_icmp okX6_reckon rfl (fun (h104 : ¬ (6 : Int32) = (6 : Int32)) => ?_) (fun h1040 => ?_)
                · exact absurd h104 (by decide)
                · have h104 : (6 : Int32) = (6 : Int32) := Classical.not_not.mp h1040
                  refine r_run okX6_reckon 14 (cs := [vp_in (nI r.length) 32, vp_in (nI r.length) 32]) (σ' := (6, [some (.ref 79), some (.int f), some (.int (nI e)), some (.ref 76), some (.int ((nI r.length) + 1)), some (.int ((nI k) + 1)), some (.int 6), some (.int 1)], [], (SS b c), (upI (sQ 86 I g) 86 ((nI r.length).toNatClampNeg) (1 - (g ((nI r.length).toNatClampNeg)))), J, 0, 0)) rfl ⟨(vin (by omega) (by decide)), (vin (by omega) (by decide)), trivial⟩ ?_
                  simp only [cs1, hx]
                  show Rj _ _ _ _ _ _ (6, [some (.ref 79), some (.int f), some (.int (nI e)), some (.ref 76), some (.int ((nI r.length) + 1)), some (.int ((nI k) + 1)), some (.int 6), some (.int 1)], [], (SS b c), (upI (sQ 86 I g) 86 r.length (1 - x)), J, 0, 0)
                  rw [sQ_u, nI_eq1, nI_eq1]
                  refine r_weak (L' := [some (.ref 79), some (.int f), some (.int (nI e)), some (.ref 76), some (.int (nI (r.length + 1))), some (.int (nI (k + 1))), none, none]) ⟨rfl, rfl, rfl, rfl, rfl, rfl, trivial⟩ ?_
                  refine ih (k + 1) ((1 - x) :: r) (true :: r0) _ (by omega) (by rw [List.length_cons]; exact ht1) ⟨(fun _ => bz_not bx), hBr⟩ hc3 ⟨upd_t, StL_u (Nat.le_refl _) hLr⟩ hty1 ?_
                  refine Eq.trans (congrArg (evC h c0) ?_) hev
                  exact Eq.symm rfl
              · have h80 : (1 : Int32) = (0 : Int32) := Classical.not_not.mp h800
                exact absurd h80 (by decide)
            · have h58 : (6 : Int32) = (16 : Int32) := Classical.not_not.mp h580
              exact absurd h58 (by decide)
          · exact absurd (nI_lt (a := r.length) (b := 32) (by omega) (by decide)) h42
    · rcases e1 with e1 | e1 | e1
      · have e1 : o1 = 2 := e1
        subst e1
        subst e2
        have hc1 : I 80 k = 43 := hc1
        subst er
        obtain ⟨y, r1, rfl, by_, hB1⟩ := StB_c hB
        obtain ⟨x, r, rfl, bx, hBr⟩ := StB_c hB1
        obtain ⟨hy, hx, hLr⟩ := hL
        have hy : g (r.length + 1) = y := hy
        have hln := StB_len hBr
        rw [List.length_cons, List.length_cons] at ht
        rw [List.length_cons] at ht1
        have cs1 : (nI r.length).toNatClampNeg = r.length := nI_clamp (by omega)
        have cs2 : (nI (r.length + 1)).toNatClampNeg = r.length + 1 := nI_clamp (by omega)
        have esub : nI (r.length + 2) - 2 = nI r.length := by rw [show (2 : Int32) = nI 2 from rfl, pk_sub (by omega), Nat.add_sub_cancel]
        refine r_run okX6_reckon 2 (cs := []) (σ' := (9, [some (.ref 79), some (.int f), some (.int (nI e)), some (.ref 76), some (.int (nI (r.length + 2))), some (.int (nI k)), none, none], [.int (nI e), .int (nI k)], (SS b c), (sQ 86 I g), J, 0, 0)) rfl trivial ?_
        refine r_icmp okX6_reckon rfl (fun (h9 : (nI e) ≤ (nI k)) => ?_) (fun (h9 : ¬ (nI e) ≤ (nI k)) => ?_)
        · exact absurd h9 (nI_ge (by omega) (by omega))
        · refine r_run okX6_reckon 6 (cs := [vp_in (nI k) 800]) (σ' := (23, [some (.ref 79), some (.int f), some (.int (nI e)), some (.ref 76), some (.int (nI (r.length + 2))), some (.int (nI k)), some (.int (I 80 ((nI k).toNatClampNeg))), none], [.int (I 80 ((nI k).toNatClampNeg))], (SS b c), (sQ 86 I g), J, 0, 0)) rfl ⟨(vin (by omega) (by decide)), trivial⟩ ?_
          simp only [ck, hc1]
          show Rj _ _ _ _ _ _ (23, [some (.ref 79), some (.int f), some (.int (nI e)), some (.ref 76), some (.int (nI (r.length + 2))), some (.int (nI k)), some (.int 43), none], [.int 43], (SS b c), (sQ 86 I g), J, 0, 0)
          refine r_callS okX6_reckon okX6_operands [.int 43] [] rfl rfl rfl kkX6_operands rfl rfl (by decide) (by decide) ⟨Nat.le_refl _, Nat.le_refl _⟩ (Nat.le_of_ble_eq_true rfl) (o_ops43 γ) (fun v1 S1 I1 J1 hp => ?_)
          obtain ⟨rfl, rfl, rfl, rfl⟩ := hp
          show Rj _ _ _ _ _ _ (26, [some (.ref 79), some (.int f), some (.int (nI e)), some (.ref 76), some (.int (nI (r.length + 2))), some (.int (nI k)), some (.int 43), none], [.int 2], (SS b c), (sQ 86 I g), J, 0, 0)
          refine r_run okX6_reckon 3 (cs := []) (σ' := (32, [some (.ref 79), some (.int f), some (.int (nI e)), some (.ref 76), some (.int (nI (r.length + 2))), some (.int (nI k)), some (.int 43), some (.int 2)], [.int 2, .int (nI (r.length + 2))], (SS b c), (sQ 86 I g), J, 0, 0)) rfl trivial ?_
          refine r_icmp okX6_reckon rfl (fun (h32 : (nI (r.length + 2)) < (2 : Int32)) => ?_) (fun (h32 : ¬ (nI (r.length + 2)) < (2 : Int32)) => ?_)
          · exact absurd h32 (nI_nlt (a := r.length + 2) (b := 2) (by omega) (by omega))
          · refine r_run okX6_reckon 4 (cs := []) (σ' := (42, [some (.ref 79), some (.int f), some (.int (nI e)), some (.ref 76), some (.int (nI (r.length + 2))), some (.int (nI k)), some (.int 43), some (.int 2)], [.int 32, .int ((nI (r.length + 2)) - 2)], (SS b c), (sQ 86 I g), J, 0, 0)) rfl trivial ?_
            simp only [esub]
            show Rj _ _ _ _ _ _ (42, [some (.ref 79), some (.int f), some (.int (nI e)), some (.ref 76), some (.int (nI (r.length + 2))), some (.int (nI k)), some (.int 43), some (.int 2)], [.int 32, .int (nI r.length)], (SS b c), (sQ 86 I g), J, 0, 0)
            refine r_icmp okX6_reckon rfl (fun (h42 : (nI r.length) < (32 : Int32)) => ?_) (fun (h42 : ¬ (nI r.length) < (32 : Int32)) => ?_)
            · refine r_run okX6_reckon 6 (cs := []) (σ' := (58, [some (.ref 79), some (.int f), some (.int (nI e)), some (.ref 76), some (.int ((nI (r.length + 2)) - 2)), some (.int (nI k)), some (.int 43), some (.int 2)], [.int 16, .int 43], (SS b c), (sQ 86 I g), J, 0, 0)) rfl trivial ?_
              simp only [esub]
              show Rj _ _ _ _ _ _ (58, [some (.ref 79), some (.int f), some (.int (nI e)), some (.ref 76), some (.int (nI r.length)), some (.int (nI k)), some (.int 43), some (.int 2)], [.int 16, .int 43], (SS b c), (sQ 86 I g), J, 0, 0)
              refine r_icmp okX6_reckon rfl (fun (h58 : ¬ (43 : Int32) = (16 : Int32)) => ?_) (fun h580 => ?_)
              · refine r_run okX6_reckon 1 (cs := []) (σ' := (80, [some (.ref 79), some (.int f), some (.int (nI e)), some (.ref 76), some (.int (nI r.length)), some (.int (nI k)), some (.int 43), some (.int 2)], [.int 2], (SS b c), (sQ 86 I g), J, 0, 0)) rfl trivial ?_
                refine r_ifc okX6_reckon rfl (fun (h80 : ¬ (2 : Int32) = (0 : Int32)) => ?_) (fun h800 => ?_)
                · refine r_run okX6_reckon 2 (cs := []) (σ' := (104, [some (.ref 79), some (.int f), some (.int (nI e)), some (.ref 76), some (.int (nI r.length)), some (.int (nI k)), some (.int 43), some (.int 2)], [.int 6, .int 43], (SS b c), (sQ 86 I g), J, 0, 0)) rfl trivial ?_
                  refine r_icmp okX6_reckon rfl (fun (h104 : ¬ (43 : Int32) = (6 : Int32)) => ?_) (fun h1040 => ?_)
                  · refine r_run okX6_reckon 2 (cs := []) (σ' := (130, [some (.ref 79), some (.int f), some (.int (nI e)), some (.ref 76), some (.int (nI r.length)), some (.int (nI k)), some (.int 43), some (.int 2)], [.int 47, .int 43], (SS b c), (sQ 86 I g), J, 0, 0)) rfl trivial ?_
                    refine r_icmp okX6_reckon rfl (fun (h130 : ¬ (43 : Int32) = (47 : Int32)) => ?_) (fun h1300 => ?_)
                    · refine r_run okX6_reckon 14 (cs := [vp_in (nI r.length) 32, vp_in ((nI r.length) + 1) 32]) (σ' := (196, [some (.ref 79), some (.int f), some (.int (nI e)), some (.ref 76), some (.int (nI r.length)), some (.int (nI k)), some (.int 43), some (.int 2)], [.int (g (((nI r.length) + 1).toNatClampNeg)), .int (g ((nI r.length).toNatClampNeg)), .int 43, .int (nI r.length), .ref 86], (SS b c), (sQ 86 I g), J, 0, 0)) rfl ⟨(vin (by omega) (by decide)), (by rw [nI_eq1]; exact vin (by omega) (by decide)), trivial⟩ ?_
                      simp only [cs1, nI_eq1, cs2, hy, hx]
                      show Rj _ _ _ _ _ _ (196, [some (.ref 79), some (.int f), some (.int (nI e)), some (.ref 76), some (.int (nI r.length)), some (.int (nI k)), some (.int 43), some (.int 2)], [.int y, .int x, .int 43, .int (nI r.length), .ref 86], (SS b c), (sQ 86 I g), J, 0, 0)
                      refine r_callS okX6_reckon okX6_join [.int 43, .int x, .int y] [.int (nI r.length), .ref 86] rfl rfl rfl kkX6_join rfl rfl (by decide) (by decide) ⟨Nat.le_refl _, Nat.le_refl _⟩ (Nat.le_of_ble_eq_true rfl) (o_join43 γ x y) (fun v1 S1 I1 J1 hp => ?_)
                      obtain ⟨rfl, rfl, rfl, rfl⟩ := hp
                      show Rj _ _ _ _ _ _ (199, [some (.ref 79), some (.int f), some (.int (nI e)), some (.ref 76), some (.int (nI r.length)), some (.int (nI k)), some (.int 43), some (.int 2)], [.int (x + y), .int (nI r.length), .ref 86], (SS b c), (sQ 86 I g), J, 0, 0)
                      refine r_run okX6_reckon 4 (cs := [vp_in (nI r.length) 32]) (σ' := (6, [some (.ref 79), some (.int f), some (.int (nI e)), some (.ref 76), some (.int ((nI r.length) + 1)), some (.int ((nI k) + 1)), some (.int 43), some (.int 2)], [], (SS b c), (upI (sQ 86 I g) 86 ((nI r.length).toNatClampNeg) (x + y)), J, 0, 0)) rfl ⟨(vin (by omega) (by decide)), trivial⟩ ?_
                      simp only [cs1, nI_eq1]
                      show Rj _ _ _ _ _ _ (6, [some (.ref 79), some (.int f), some (.int (nI e)), some (.ref 76), some (.int (nI (r.length + 1))), some (.int (nI (k + 1))), some (.int 43), some (.int 2)], [], (SS b c), (upI (sQ 86 I g) 86 r.length (x + y)), J, 0, 0)
                      rw [sQ_u]
                      refine r_weak (L' := [some (.ref 79), some (.int f), some (.int (nI e)), some (.ref 76), some (.int (nI (r.length + 1))), some (.int (nI (k + 1))), none, none]) ⟨rfl, rfl, rfl, rfl, rfl, rfl, trivial⟩ ?_
                      refine ih (k + 1) ((x + y) :: r) (false :: r0) _ (by omega) (by rw [List.length_cons]; exact ht1) ⟨(fun q => by cases q), hBr⟩ hc3 ⟨upd_t, StL_u (Nat.le_refl _) hLr⟩ hty1 ?_
                      refine Eq.trans (congrArg (evC h c0) ?_) hev
                      exact Eq.symm rfl
                    · have h130 : (43 : Int32) = (47 : Int32) := Classical.not_not.mp h1300
                      exact absurd h130 (by decide)
                  · have h104 : (43 : Int32) = (6 : Int32) := Classical.not_not.mp h1040
                    exact absurd h104 (by decide)
                · have h80 : (2 : Int32) = (0 : Int32) := Classical.not_not.mp h800
                  exact absurd h80 (by decide)
              · have h58 : (43 : Int32) = (16 : Int32) := Classical.not_not.mp h580
                exact absurd h58 (by decide)
            · exact absurd (nI_lt (a := r.length) (b := 32) (by omega) (by decide)) h42
      · have e1 : o1 = 3 := e1
        subst e1
        subst e2
        have hc1 : I 80 k = 45 := hc1
        subst er
        obtain ⟨y, r1, rfl, by_, hB1⟩ := StB_c hB
        obtain ⟨x, r, rfl, bx, hBr⟩ := StB_c hB1
        obtain ⟨hy, hx, hLr⟩ := hL
        have hy : g (r.length + 1) = y := hy
        have hln := StB_len hBr
        rw [List.length_cons, List.length_cons] at ht
        rw [List.length_cons] at ht1
        have cs1 : (nI r.length).toNatClampNeg = r.length := nI_clamp (by omega)
        have cs2 : (nI (r.length + 1)).toNatClampNeg = r.length + 1 := nI_clamp (by omega)
        have esub : nI (r.length + 2) - 2 = nI r.length := by rw [show (2 : Int32) = nI 2 from rfl, pk_sub (by omega), Nat.add_sub_cancel]
        refine r_run okX6_reckon 2 (cs := []) (σ' := (9, [some (.ref 79), some (.int f), some (.int (nI e)), some (.ref 76), some (.int (nI (r.length + 2))), some (.int (nI k)), none, none], [.int (nI e), .int (nI k)], (SS b c), (sQ 86 I g), J, 0, 0)) rfl trivial ?_
        refine r_icmp okX6_reckon rfl (fun (h9 : (nI e) ≤ (nI k)) => ?_) (fun (h9 : ¬ (nI e) ≤ (nI k)) => ?_)
        · exact absurd h9 (nI_ge (by omega) (by omega))
        · refine r_run okX6_reckon 6 (cs := [vp_in (nI k) 800]) (σ' := (23, [some (.ref 79), some (.int f), some (.int (nI e)), some (.ref 76), some (.int (nI (r.length + 2))), some (.int (nI k)), some (.int (I 80 ((nI k).toNatClampNeg))), none], [.int (I 80 ((nI k).toNatClampNeg))], (SS b c), (sQ 86 I g), J, 0, 0)) rfl ⟨(vin (by omega) (by decide)), trivial⟩ ?_
          simp only [ck, hc1]
          show Rj _ _ _ _ _ _ (23, [some (.ref 79), some (.int f), some (.int (nI e)), some (.ref 76), some (.int (nI (r.length + 2))), some (.int (nI k)), some (.int 45), none], [.int 45], (SS b c), (sQ 86 I g), J, 0, 0)
          refine r_callS okX6_reckon okX6_operands [.int 45] [] rfl rfl rfl kkX6_operands rfl rfl (by decide) (by decide) ⟨Nat.le_refl _, Nat.le_refl _⟩ (Nat.le_of_ble_eq_true rfl) (o_ops45 γ) (fun v1 S1 I1 J1 hp => ?_)
          obtain ⟨rfl, rfl, rfl, rfl⟩ := hp
          show Rj _ _ _ _ _ _ (26, [some (.ref 79), some (.int f), some (.int (nI e)), some (.ref 76), some (.int (nI (r.length + 2))), some (.int (nI k)), some (.int 45), none], [.int 2], (SS b c), (sQ 86 I g), J, 0, 0)
          refine r_run okX6_reckon 3 (cs := []) (σ' := (32, [some (.ref 79), some (.int f), some (.int (nI e)), some (.ref 76), some (.int (nI (r.length + 2))), some (.int (nI k)), some (.int 45), some (.int 2)], [.int 2, .int (nI (r.length + 2))], (SS b c), (sQ 86 I g), J, 0, 0)) rfl trivial ?_
          refine r_icmp okX6_reckon rfl (fun (h32 : (nI (r.length + 2)) < (2 : Int32)) => ?_) (fun (h32 : ¬ (nI (r.length + 2)) < (2 : Int32)) => ?_)
          · exact absurd h32 (nI_nlt (a := r.length + 2) (b := 2) (by omega) (by omega))
          · refine r_run okX6_reckon 4 (cs := []) (σ' := (42, [some (.ref 79), some (.int f), some (.int (nI e)), some (.ref 76), some (.int (nI (r.length + 2))), some (.int (nI k)), some (.int 45), some (.int 2)], [.int 32, .int ((nI (r.length + 2)) - 2)], (SS b c), (sQ 86 I g), J, 0, 0)) rfl trivial ?_
            simp only [esub]
            show Rj _ _ _ _ _ _ (42, [some (.ref 79), some (.int f), some (.int (nI e)), some (.ref 76), some (.int (nI (r.length + 2))), some (.int (nI k)), some (.int 45), some (.int 2)], [.int 32, .int (nI r.length)], (SS b c), (sQ 86 I g), J, 0, 0)
            refine r_icmp okX6_reckon rfl (fun (h42 : (nI r.length) < (32 : Int32)) => ?_) (fun (h42 : ¬ (nI r.length) < (32 : Int32)) => ?_)
            · refine r_run okX6_reckon 6 (cs := []) (σ' := (58, [some (.ref 79), some (.int f), some (.int (nI e)), some (.ref 76), some (.int ((nI (r.length + 2)) - 2)), some (.int (nI k)), some (.int 45), some (.int 2)], [.int 16, .int 45], (SS b c), (sQ 86 I g), J, 0, 0)) rfl trivial ?_
              simp only [esub]
              show Rj _ _ _ _ _ _ (58, [some (.ref 79), some (.int f), some (.int (nI e)), some (.ref 76), some (.int (nI r.length)), some (.int (nI k)), some (.int 45), some (.int 2)], [.int 16, .int 45], (SS b c), (sQ 86 I g), J, 0, 0)
              refine r_icmp okX6_reckon rfl (fun (h58 : ¬ (45 : Int32) = (16 : Int32)) => ?_) (fun h580 => ?_)
              · refine r_run okX6_reckon 1 (cs := []) (σ' := (80, [some (.ref 79), some (.int f), some (.int (nI e)), some (.ref 76), some (.int (nI r.length)), some (.int (nI k)), some (.int 45), some (.int 2)], [.int 2], (SS b c), (sQ 86 I g), J, 0, 0)) rfl trivial ?_
                refine r_ifc okX6_reckon rfl (fun (h80 : ¬ (2 : Int32) = (0 : Int32)) => ?_) (fun h800 => ?_)
                · refine r_run okX6_reckon 2 (cs := []) (σ' := (104, [some (.ref 79), some (.int f), some (.int (nI e)), some (.ref 76), some (.int (nI r.length)), some (.int (nI k)), some (.int 45), some (.int 2)], [.int 6, .int 45], (SS b c), (sQ 86 I g), J, 0, 0)) rfl trivial ?_
                  refine r_icmp okX6_reckon rfl (fun (h104 : ¬ (45 : Int32) = (6 : Int32)) => ?_) (fun h1040 => ?_)
                  · refine r_run okX6_reckon 2 (cs := []) (σ' := (130, [some (.ref 79), some (.int f), some (.int (nI e)), some (.ref 76), some (.int (nI r.length)), some (.int (nI k)), some (.int 45), some (.int 2)], [.int 47, .int 45], (SS b c), (sQ 86 I g), J, 0, 0)) rfl trivial ?_
                    refine r_icmp okX6_reckon rfl (fun (h130 : ¬ (45 : Int32) = (47 : Int32)) => ?_) (fun h1300 => ?_)
                    · refine r_run okX6_reckon 14 (cs := [vp_in (nI r.length) 32, vp_in ((nI r.length) + 1) 32]) (σ' := (196, [some (.ref 79), some (.int f), some (.int (nI e)), some (.ref 76), some (.int (nI r.length)), some (.int (nI k)), some (.int 45), some (.int 2)], [.int (g (((nI r.length) + 1).toNatClampNeg)), .int (g ((nI r.length).toNatClampNeg)), .int 45, .int (nI r.length), .ref 86], (SS b c), (sQ 86 I g), J, 0, 0)) rfl ⟨(vin (by omega) (by decide)), (by rw [nI_eq1]; exact vin (by omega) (by decide)), trivial⟩ ?_
                      simp only [cs1, nI_eq1, cs2, hy, hx]
                      show Rj _ _ _ _ _ _ (196, [some (.ref 79), some (.int f), some (.int (nI e)), some (.ref 76), some (.int (nI r.length)), some (.int (nI k)), some (.int 45), some (.int 2)], [.int y, .int x, .int 45, .int (nI r.length), .ref 86], (SS b c), (sQ 86 I g), J, 0, 0)
                      refine r_callS okX6_reckon okX6_join [.int 45, .int x, .int y] [.int (nI r.length), .ref 86] rfl rfl rfl kkX6_join rfl rfl (by decide) (by decide) ⟨Nat.le_refl _, Nat.le_refl _⟩ (Nat.le_of_ble_eq_true rfl) (o_join45 γ x y) (fun v1 S1 I1 J1 hp => ?_)
                      obtain ⟨rfl, rfl, rfl, rfl⟩ := hp
                      show Rj _ _ _ _ _ _ (199, [some (.ref 79), some (.int f), some (.int (nI e)), some (.ref 76), some (.int (nI r.length)), some (.int (nI k)), some (.int 45), some (.int 2)], [.int (x - y), .int (nI r.length), .ref 86], (SS b c), (sQ 86 I g), J, 0, 0)
                      refine r_run okX6_reckon 4 (cs := [vp_in (nI r.length) 32]) (σ' := (6, [some (.ref 79), some (.int f), some (.int (nI e)), some (.ref 76), some (.int ((nI r.length) + 1)), some (.int ((nI k) + 1)), some (.int 45), some (.int 2)], [], (SS b c), (upI (sQ 86 I g) 86 ((nI r.length).toNatClampNeg) (x - y)), J, 0, 0)) rfl ⟨(vin (by omega) (by decide)), trivial⟩ ?_
                      simp only [cs1, nI_eq1]
                      show Rj _ _ _ _ _ _ (6, [some (.ref 79), some (.int f), some (.int (nI e)), some (.ref 76), some (.int (nI (r.length + 1))), some (.int (nI (k + 1))), some (.int 45), some (.int 2)], [], (SS b c), (upI (sQ 86 I g) 86 r.length (x - y)), J, 0, 0)
                      rw [sQ_u]
                      refine r_weak (L' := [some (.ref 79), some (.int f), some (.int (nI e)), some (.ref 76), some (.int (nI (r.length + 1))), some (.int (nI (k + 1))), none, none]) ⟨rfl, rfl, rfl, rfl, rfl, rfl, trivial⟩ ?_
                      refine ih (k + 1) ((x - y) :: r) (false :: r0) _ (by omega) (by rw [List.length_cons]; exact ht1) ⟨(fun q => by cases q), hBr⟩ hc3 ⟨upd_t, StL_u (Nat.le_refl _) hLr⟩ hty1 ?_
                      refine Eq.trans (congrArg (evC h c0) ?_) hev
                      exact Eq.symm rfl
                    · have h130 : (45 : Int32) = (47 : Int32) := Classical.not_not.mp h1300
                      exact absurd h130 (by decide)
                  · have h104 : (45 : Int32) = (6 : Int32) := Classical.not_not.mp h1040
                    exact absurd h104 (by decide)
                · have h80 : (2 : Int32) = (0 : Int32) := Classical.not_not.mp h800
                  exact absurd h80 (by decide)
              · have h58 : (45 : Int32) = (16 : Int32) := Classical.not_not.mp h580
                exact absurd h58 (by decide)
            · exact absurd (nI_lt (a := r.length) (b := 32) (by omega) (by decide)) h42
      · have e1 : o1 = 4 := e1
        subst e1
        subst e2
        have hc1 : I 80 k = 42 := hc1
        subst er
        obtain ⟨y, r1, rfl, by_, hB1⟩ := StB_c hB
        obtain ⟨x, r, rfl, bx, hBr⟩ := StB_c hB1
        obtain ⟨hy, hx, hLr⟩ := hL
        have hy : g (r.length + 1) = y := hy
        have hln := StB_len hBr
        rw [List.length_cons, List.length_cons] at ht
        rw [List.length_cons] at ht1
        have cs1 : (nI r.length).toNatClampNeg = r.length := nI_clamp (by omega)
        have cs2 : (nI (r.length + 1)).toNatClampNeg = r.length + 1 := nI_clamp (by omega)
        have esub : nI (r.length + 2) - 2 = nI r.length := by rw [show (2 : Int32) = nI 2 from rfl, pk_sub (by omega), Nat.add_sub_cancel]
        refine r_run okX6_reckon 2 (cs := []) (σ' := (9, [some (.ref 79), some (.int f), some (.int (nI e)), some (.ref 76), some (.int (nI (r.length + 2))), some (.int (nI k)), none, none], [.int (nI e), .int (nI k)], (SS b c), (sQ 86 I g), J, 0, 0)) rfl trivial ?_
        refine r_icmp okX6_reckon rfl (fun (h9 : (nI e) ≤ (nI k)) => ?_) (fun (h9 : ¬ (nI e) ≤ (nI k)) => ?_)
        · exact absurd h9 (nI_ge (by omega) (by omega))
        · refine r_run okX6_reckon 6 (cs := [vp_in (nI k) 800]) (σ' := (23, [some (.ref 79), some (.int f), some (.int (nI e)), some (.ref 76), some (.int (nI (r.length + 2))), some (.int (nI k)), some (.int (I 80 ((nI k).toNatClampNeg))), none], [.int (I 80 ((nI k).toNatClampNeg))], (SS b c), (sQ 86 I g), J, 0, 0)) rfl ⟨(vin (by omega) (by decide)), trivial⟩ ?_
          simp only [ck, hc1]
          show Rj _ _ _ _ _ _ (23, [some (.ref 79), some (.int f), some (.int (nI e)), some (.ref 76), some (.int (nI (r.length + 2))), some (.int (nI k)), some (.int 42), none], [.int 42], (SS b c), (sQ 86 I g), J, 0, 0)
          refine r_callS okX6_reckon okX6_operands [.int 42] [] rfl rfl rfl kkX6_operands rfl rfl (by decide) (by decide) ⟨Nat.le_refl _, Nat.le_refl _⟩ (Nat.le_of_ble_eq_true rfl) (o_ops42 γ) (fun v1 S1 I1 J1 hp => ?_)
          obtain ⟨rfl, rfl, rfl, rfl⟩ := hp
          show Rj _ _ _ _ _ _ (26, [some (.ref 79), some (.int f), some (.int (nI e)), some (.ref 76), some (.int (nI (r.length + 2))), some (.int (nI k)), some (.int 42), none], [.int 2], (SS b c), (sQ 86 I g), J, 0, 0)
          refine r_run okX6_reckon 3 (cs := []) (σ' := (32, [some (.ref 79), some (.int f), some (.int (nI e)), some (.ref 76), some (.int (nI (r.length + 2))), some (.int (nI k)), some (.int 42), some (.int 2)], [.int 2, .int (nI (r.length + 2))], (SS b c), (sQ 86 I g), J, 0, 0)) rfl trivial ?_
          refine r_icmp okX6_reckon rfl (fun (h32 : (nI (r.length + 2)) < (2 : Int32)) => ?_) (fun (h32 : ¬ (nI (r.length + 2)) < (2 : Int32)) => ?_)
          · exact absurd h32 (nI_nlt (a := r.length + 2) (b := 2) (by omega) (by omega))
          · refine r_run okX6_reckon 4 (cs := []) (σ' := (42, [some (.ref 79), some (.int f), some (.int (nI e)), some (.ref 76), some (.int (nI (r.length + 2))), some (.int (nI k)), some (.int 42), some (.int 2)], [.int 32, .int ((nI (r.length + 2)) - 2)], (SS b c), (sQ 86 I g), J, 0, 0)) rfl trivial ?_
            simp only [esub]
            show Rj _ _ _ _ _ _ (42, [some (.ref 79), some (.int f), some (.int (nI e)), some (.ref 76), some (.int (nI (r.length + 2))), some (.int (nI k)), some (.int 42), some (.int 2)], [.int 32, .int (nI r.length)], (SS b c), (sQ 86 I g), J, 0, 0)
            refine r_icmp okX6_reckon rfl (fun (h42 : (nI r.length) < (32 : Int32)) => ?_) (fun (h42 : ¬ (nI r.length) < (32 : Int32)) => ?_)
            · refine r_run okX6_reckon 6 (cs := []) (σ' := (58, [some (.ref 79), some (.int f), some (.int (nI e)), some (.ref 76), some (.int ((nI (r.length + 2)) - 2)), some (.int (nI k)), some (.int 42), some (.int 2)], [.int 16, .int 42], (SS b c), (sQ 86 I g), J, 0, 0)) rfl trivial ?_
              simp only [esub]
              show Rj _ _ _ _ _ _ (58, [some (.ref 79), some (.int f), some (.int (nI e)), some (.ref 76), some (.int (nI r.length)), some (.int (nI k)), some (.int 42), some (.int 2)], [.int 16, .int 42], (SS b c), (sQ 86 I g), J, 0, 0)
              refine r_icmp okX6_reckon rfl (fun (h58 : ¬ (42 : Int32) = (16 : Int32)) => ?_) (fun h580 => ?_)
              · refine r_run okX6_reckon 1 (cs := []) (σ' := (80, [some (.ref 79), some (.int f), some (.int (nI e)), some (.ref 76), some (.int (nI r.length)), some (.int (nI k)), some (.int 42), some (.int 2)], [.int 2], (SS b c), (sQ 86 I g), J, 0, 0)) rfl trivial ?_
                refine r_ifc okX6_reckon rfl (fun (h80 : ¬ (2 : Int32) = (0 : Int32)) => ?_) (fun h800 => ?_)
                · refine r_run okX6_reckon 2 (cs := []) (σ' := (104, [some (.ref 79), some (.int f), some (.int (nI e)), some (.ref 76), some (.int (nI r.length)), some (.int (nI k)), some (.int 42), some (.int 2)], [.int 6, .int 42], (SS b c), (sQ 86 I g), J, 0, 0)) rfl trivial ?_
                  refine r_icmp okX6_reckon rfl (fun (h104 : ¬ (42 : Int32) = (6 : Int32)) => ?_) (fun h1040 => ?_)
                  · refine r_run okX6_reckon 2 (cs := []) (σ' := (130, [some (.ref 79), some (.int f), some (.int (nI e)), some (.ref 76), some (.int (nI r.length)), some (.int (nI k)), some (.int 42), some (.int 2)], [.int 47, .int 42], (SS b c), (sQ 86 I g), J, 0, 0)) rfl trivial ?_
                    refine r_icmp okX6_reckon rfl (fun (h130 : ¬ (42 : Int32) = (47 : Int32)) => ?_) (fun h1300 => ?_)
                    · refine r_run okX6_reckon 14 (cs := [vp_in (nI r.length) 32, vp_in ((nI r.length) + 1) 32]) (σ' := (196, [some (.ref 79), some (.int f), some (.int (nI e)), some (.ref 76), some (.int (nI r.length)), some (.int (nI k)), some (.int 42), some (.int 2)], [.int (g (((nI r.length) + 1).toNatClampNeg)), .int (g ((nI r.length).toNatClampNeg)), .int 42, .int (nI r.length), .ref 86], (SS b c), (sQ 86 I g), J, 0, 0)) rfl ⟨(vin (by omega) (by decide)), (by rw [nI_eq1]; exact vin (by omega) (by decide)), trivial⟩ ?_
                      simp only [cs1, nI_eq1, cs2, hy, hx]
                      show Rj _ _ _ _ _ _ (196, [some (.ref 79), some (.int f), some (.int (nI e)), some (.ref 76), some (.int (nI r.length)), some (.int (nI k)), some (.int 42), some (.int 2)], [.int y, .int x, .int 42, .int (nI r.length), .ref 86], (SS b c), (sQ 86 I g), J, 0, 0)
                      refine r_callS okX6_reckon okX6_join [.int 42, .int x, .int y] [.int (nI r.length), .ref 86] rfl rfl rfl kkX6_join rfl rfl (by decide) (by decide) ⟨Nat.le_refl _, Nat.le_refl _⟩ (Nat.le_of_ble_eq_true rfl) (o_join42 γ x y) (fun v1 S1 I1 J1 hp => ?_)
                      obtain ⟨rfl, rfl, rfl, rfl⟩ := hp
                      show Rj _ _ _ _ _ _ (199, [some (.ref 79), some (.int f), some (.int (nI e)), some (.ref 76), some (.int (nI r.length)), some (.int (nI k)), some (.int 42), some (.int 2)], [.int (x * y), .int (nI r.length), .ref 86], (SS b c), (sQ 86 I g), J, 0, 0)
                      refine r_run okX6_reckon 4 (cs := [vp_in (nI r.length) 32]) (σ' := (6, [some (.ref 79), some (.int f), some (.int (nI e)), some (.ref 76), some (.int ((nI r.length) + 1)), some (.int ((nI k) + 1)), some (.int 42), some (.int 2)], [], (SS b c), (upI (sQ 86 I g) 86 ((nI r.length).toNatClampNeg) (x * y)), J, 0, 0)) rfl ⟨(vin (by omega) (by decide)), trivial⟩ ?_
                      simp only [cs1, nI_eq1]
                      show Rj _ _ _ _ _ _ (6, [some (.ref 79), some (.int f), some (.int (nI e)), some (.ref 76), some (.int (nI (r.length + 1))), some (.int (nI (k + 1))), some (.int 42), some (.int 2)], [], (SS b c), (upI (sQ 86 I g) 86 r.length (x * y)), J, 0, 0)
                      rw [sQ_u]
                      refine r_weak (L' := [some (.ref 79), some (.int f), some (.int (nI e)), some (.ref 76), some (.int (nI (r.length + 1))), some (.int (nI (k + 1))), none, none]) ⟨rfl, rfl, rfl, rfl, rfl, rfl, trivial⟩ ?_
                      refine ih (k + 1) ((x * y) :: r) (false :: r0) _ (by omega) (by rw [List.length_cons]; exact ht1) ⟨(fun q => by cases q), hBr⟩ hc3 ⟨upd_t, StL_u (Nat.le_refl _) hLr⟩ hty1 ?_
                      refine Eq.trans (congrArg (evC h c0) ?_) hev
                      exact Eq.symm rfl
                    · have h130 : (42 : Int32) = (47 : Int32) := Classical.not_not.mp h1300
                      exact absurd h130 (by decide)
                  · have h104 : (42 : Int32) = (6 : Int32) := Classical.not_not.mp h1040
                    exact absurd h104 (by decide)
                · have h80 : (2 : Int32) = (0 : Int32) := Classical.not_not.mp h800
                  exact absurd h80 (by decide)
              · have h58 : (42 : Int32) = (16 : Int32) := Classical.not_not.mp h580
                exact absurd h58 (by decide)
            · exact absurd (nI_lt (a := r.length) (b := 32) (by omega) (by decide)) h42
    · rcases e1 with e1 | e1 | e1
      · have e1 : o1 = 6 := e1
        subst e1
        subst e2
        have hc1 : I 80 k = 60 := hc1
        subst er
        obtain ⟨y, r1, rfl, by_, hB1⟩ := StB_c hB
        obtain ⟨x, r, rfl, bx, hBr⟩ := StB_c hB1
        obtain ⟨hy, hx, hLr⟩ := hL
        have hy : g (r.length + 1) = y := hy
        have hln := StB_len hBr
        rw [List.length_cons, List.length_cons] at ht
        rw [List.length_cons] at ht1
        have cs1 : (nI r.length).toNatClampNeg = r.length := nI_clamp (by omega)
        have cs2 : (nI (r.length + 1)).toNatClampNeg = r.length + 1 := nI_clamp (by omega)
        have esub : nI (r.length + 2) - 2 = nI r.length := by rw [show (2 : Int32) = nI 2 from rfl, pk_sub (by omega), Nat.add_sub_cancel]
        refine r_run okX6_reckon 2 (cs := []) (σ' := (9, [some (.ref 79), some (.int f), some (.int (nI e)), some (.ref 76), some (.int (nI (r.length + 2))), some (.int (nI k)), none, none], [.int (nI e), .int (nI k)], (SS b c), (sQ 86 I g), J, 0, 0)) rfl trivial ?_
        refine r_icmp okX6_reckon rfl (fun (h9 : (nI e) ≤ (nI k)) => ?_) (fun (h9 : ¬ (nI e) ≤ (nI k)) => ?_)
        · exact absurd h9 (nI_ge (by omega) (by omega))
        · refine r_run okX6_reckon 6 (cs := [vp_in (nI k) 800]) (σ' := (23, [some (.ref 79), some (.int f), some (.int (nI e)), some (.ref 76), some (.int (nI (r.length + 2))), some (.int (nI k)), some (.int (I 80 ((nI k).toNatClampNeg))), none], [.int (I 80 ((nI k).toNatClampNeg))], (SS b c), (sQ 86 I g), J, 0, 0)) rfl ⟨(vin (by omega) (by decide)), trivial⟩ ?_
          simp only [ck, hc1]
          show Rj _ _ _ _ _ _ (23, [some (.ref 79), some (.int f), some (.int (nI e)), some (.ref 76), some (.int (nI (r.length + 2))), some (.int (nI k)), some (.int 60), none], [.int 60], (SS b c), (sQ 86 I g), J, 0, 0)
          refine r_callS okX6_reckon okX6_operands [.int 60] [] rfl rfl rfl kkX6_operands rfl rfl (by decide) (by decide) ⟨Nat.le_refl _, Nat.le_refl _⟩ (Nat.le_of_ble_eq_true rfl) (o_ops60 γ) (fun v1 S1 I1 J1 hp => ?_)
          obtain ⟨rfl, rfl, rfl, rfl⟩ := hp
          show Rj _ _ _ _ _ _ (26, [some (.ref 79), some (.int f), some (.int (nI e)), some (.ref 76), some (.int (nI (r.length + 2))), some (.int (nI k)), some (.int 60), none], [.int 2], (SS b c), (sQ 86 I g), J, 0, 0)
          refine r_run okX6_reckon 3 (cs := []) (σ' := (32, [some (.ref 79), some (.int f), some (.int (nI e)), some (.ref 76), some (.int (nI (r.length + 2))), some (.int (nI k)), some (.int 60), some (.int 2)], [.int 2, .int (nI (r.length + 2))], (SS b c), (sQ 86 I g), J, 0, 0)) rfl trivial ?_
          refine r_icmp okX6_reckon rfl (fun (h32 : (nI (r.length + 2)) < (2 : Int32)) => ?_) (fun (h32 : ¬ (nI (r.length + 2)) < (2 : Int32)) => ?_)
          · exact absurd h32 (nI_nlt (a := r.length + 2) (b := 2) (by omega) (by omega))
          · refine r_run okX6_reckon 4 (cs := []) (σ' := (42, [some (.ref 79), some (.int f), some (.int (nI e)), some (.ref 76), some (.int (nI (r.length + 2))), some (.int (nI k)), some (.int 60), some (.int 2)], [.int 32, .int ((nI (r.length + 2)) - 2)], (SS b c), (sQ 86 I g), J, 0, 0)) rfl trivial ?_
            simp only [esub]
            show Rj _ _ _ _ _ _ (42, [some (.ref 79), some (.int f), some (.int (nI e)), some (.ref 76), some (.int (nI (r.length + 2))), some (.int (nI k)), some (.int 60), some (.int 2)], [.int 32, .int (nI r.length)], (SS b c), (sQ 86 I g), J, 0, 0)
            refine r_icmp okX6_reckon rfl (fun (h42 : (nI r.length) < (32 : Int32)) => ?_) (fun (h42 : ¬ (nI r.length) < (32 : Int32)) => ?_)
            · refine r_run okX6_reckon 6 (cs := []) (σ' := (58, [some (.ref 79), some (.int f), some (.int (nI e)), some (.ref 76), some (.int ((nI (r.length + 2)) - 2)), some (.int (nI k)), some (.int 60), some (.int 2)], [.int 16, .int 60], (SS b c), (sQ 86 I g), J, 0, 0)) rfl trivial ?_
              simp only [esub]
              show Rj _ _ _ _ _ _ (58, [some (.ref 79), some (.int f), some (.int (nI e)), some (.ref 76), some (.int (nI r.length)), some (.int (nI k)), some (.int 60), some (.int 2)], [.int 16, .int 60], (SS b c), (sQ 86 I g), J, 0, 0)
              refine r_icmp okX6_reckon rfl (fun (h58 : ¬ (60 : Int32) = (16 : Int32)) => ?_) (fun h580 => ?_)
              · refine r_run okX6_reckon 1 (cs := []) (σ' := (80, [some (.ref 79), some (.int f), some (.int (nI e)), some (.ref 76), some (.int (nI r.length)), some (.int (nI k)), some (.int 60), some (.int 2)], [.int 2], (SS b c), (sQ 86 I g), J, 0, 0)) rfl trivial ?_
                refine r_ifc okX6_reckon rfl (fun (h80 : ¬ (2 : Int32) = (0 : Int32)) => ?_) (fun h800 => ?_)
                · refine r_run okX6_reckon 2 (cs := []) (σ' := (104, [some (.ref 79), some (.int f), some (.int (nI e)), some (.ref 76), some (.int (nI r.length)), some (.int (nI k)), some (.int 60), some (.int 2)], [.int 6, .int 60], (SS b c), (sQ 86 I g), J, 0, 0)) rfl trivial ?_
                  refine r_icmp okX6_reckon rfl (fun (h104 : ¬ (60 : Int32) = (6 : Int32)) => ?_) (fun h1040 => ?_)
                  · refine r_run okX6_reckon 2 (cs := []) (σ' := (130, [some (.ref 79), some (.int f), some (.int (nI e)), some (.ref 76), some (.int (nI r.length)), some (.int (nI k)), some (.int 60), some (.int 2)], [.int 47, .int 60], (SS b c), (sQ 86 I g), J, 0, 0)) rfl trivial ?_
                    refine r_icmp okX6_reckon rfl (fun (h130 : ¬ (60 : Int32) = (47 : Int32)) => ?_) (fun h1300 => ?_)
                    · refine r_run okX6_reckon 14 (cs := [vp_in (nI r.length) 32, vp_in ((nI r.length) + 1) 32]) (σ' := (196, [some (.ref 79), some (.int f), some (.int (nI e)), some (.ref 76), some (.int (nI r.length)), some (.int (nI k)), some (.int 60), some (.int 2)], [.int (g (((nI r.length) + 1).toNatClampNeg)), .int (g ((nI r.length).toNatClampNeg)), .int 60, .int (nI r.length), .ref 86], (SS b c), (sQ 86 I g), J, 0, 0)) rfl ⟨(vin (by omega) (by decide)), (by rw [nI_eq1]; exact vin (by omega) (by decide)), trivial⟩ ?_
                      simp only [cs1, nI_eq1, cs2, hy, hx]
                      show Rj _ _ _ _ _ _ (196, [some (.ref 79), some (.int f), some (.int (nI e)), some (.ref 76), some (.int (nI r.length)), some (.int (nI k)), some (.int 60), some (.int 2)], [.int y, .int x, .int 60, .int (nI r.length), .ref 86], (SS b c), (sQ 86 I g), J, 0, 0)
                      refine r_callS okX6_reckon okX6_join [.int 60, .int x, .int y] [.int (nI r.length), .ref 86] rfl rfl rfl kkX6_join rfl rfl (by decide) (by decide) ⟨Nat.le_refl _, Nat.le_refl _⟩ (Nat.le_of_ble_eq_true rfl) (o_join60 γ x y) (fun v1 S1 I1 J1 hp => ?_)
                      obtain ⟨rfl, rfl, rfl, rfl⟩ := hp
                      show Rj _ _ _ _ _ _ (199, [some (.ref 79), some (.int f), some (.int (nI e)), some (.ref 76), some (.int (nI r.length)), some (.int (nI k)), some (.int 60), some (.int 2)], [.int (if x < y then 1 else 0), .int (nI r.length), .ref 86], (SS b c), (sQ 86 I g), J, 0, 0)
                      refine r_run okX6_reckon 4 (cs := [vp_in (nI r.length) 32]) (σ' := (6, [some (.ref 79), some (.int f), some (.int (nI e)), some (.ref 76), some (.int ((nI r.length) + 1)), some (.int ((nI k) + 1)), some (.int 60), some (.int 2)], [], (SS b c), (upI (sQ 86 I g) 86 ((nI r.length).toNatClampNeg) (if x < y then 1 else 0)), J, 0, 0)) rfl ⟨(vin (by omega) (by decide)), trivial⟩ ?_
                      simp only [cs1, nI_eq1]
                      show Rj _ _ _ _ _ _ (6, [some (.ref 79), some (.int f), some (.int (nI e)), some (.ref 76), some (.int (nI (r.length + 1))), some (.int (nI (k + 1))), some (.int 60), some (.int 2)], [], (SS b c), (upI (sQ 86 I g) 86 r.length (if x < y then 1 else 0)), J, 0, 0)
                      rw [sQ_u]
                      refine r_weak (L' := [some (.ref 79), some (.int f), some (.int (nI e)), some (.ref 76), some (.int (nI (r.length + 1))), some (.int (nI (k + 1))), none, none]) ⟨rfl, rfl, rfl, rfl, rfl, rfl, trivial⟩ ?_
                      refine ih (k + 1) ((if x < y then 1 else 0) :: r) (true :: r0) _ (by omega) (by rw [List.length_cons]; exact ht1) ⟨(fun _ => bz_if), hBr⟩ hc3 ⟨upd_t, StL_u (Nat.le_refl _) hLr⟩ hty1 ?_
                      refine Eq.trans (congrArg (evC h c0) ?_) hev
                      exact Eq.symm rfl
                    · have h130 : (60 : Int32) = (47 : Int32) := Classical.not_not.mp h1300
                      exact absurd h130 (by decide)
                  · have h104 : (60 : Int32) = (6 : Int32) := Classical.not_not.mp h1040
                    exact absurd h104 (by decide)
                · have h80 : (2 : Int32) = (0 : Int32) := Classical.not_not.mp h800
                  exact absurd h80 (by decide)
              · have h58 : (60 : Int32) = (16 : Int32) := Classical.not_not.mp h580
                exact absurd h58 (by decide)
            · exact absurd (nI_lt (a := r.length) (b := 32) (by omega) (by decide)) h42
      · have e1 : o1 = 7 := e1
        subst e1
        subst e2
        have hc1 : I 80 k = 61 := hc1
        subst er
        obtain ⟨y, r1, rfl, by_, hB1⟩ := StB_c hB
        obtain ⟨x, r, rfl, bx, hBr⟩ := StB_c hB1
        obtain ⟨hy, hx, hLr⟩ := hL
        have hy : g (r.length + 1) = y := hy
        have hln := StB_len hBr
        rw [List.length_cons, List.length_cons] at ht
        rw [List.length_cons] at ht1
        have cs1 : (nI r.length).toNatClampNeg = r.length := nI_clamp (by omega)
        have cs2 : (nI (r.length + 1)).toNatClampNeg = r.length + 1 := nI_clamp (by omega)
        have esub : nI (r.length + 2) - 2 = nI r.length := by rw [show (2 : Int32) = nI 2 from rfl, pk_sub (by omega), Nat.add_sub_cancel]
        refine r_run okX6_reckon 2 (cs := []) (σ' := (9, [some (.ref 79), some (.int f), some (.int (nI e)), some (.ref 76), some (.int (nI (r.length + 2))), some (.int (nI k)), none, none], [.int (nI e), .int (nI k)], (SS b c), (sQ 86 I g), J, 0, 0)) rfl trivial ?_
        refine r_icmp okX6_reckon rfl (fun (h9 : (nI e) ≤ (nI k)) => ?_) (fun (h9 : ¬ (nI e) ≤ (nI k)) => ?_)
        · exact absurd h9 (nI_ge (by omega) (by omega))
        · refine r_run okX6_reckon 6 (cs := [vp_in (nI k) 800]) (σ' := (23, [some (.ref 79), some (.int f), some (.int (nI e)), some (.ref 76), some (.int (nI (r.length + 2))), some (.int (nI k)), some (.int (I 80 ((nI k).toNatClampNeg))), none], [.int (I 80 ((nI k).toNatClampNeg))], (SS b c), (sQ 86 I g), J, 0, 0)) rfl ⟨(vin (by omega) (by decide)), trivial⟩ ?_
          simp only [ck, hc1]
          show Rj _ _ _ _ _ _ (23, [some (.ref 79), some (.int f), some (.int (nI e)), some (.ref 76), some (.int (nI (r.length + 2))), some (.int (nI k)), some (.int 61), none], [.int 61], (SS b c), (sQ 86 I g), J, 0, 0)
          refine r_callS okX6_reckon okX6_operands [.int 61] [] rfl rfl rfl kkX6_operands rfl rfl (by decide) (by decide) ⟨Nat.le_refl _, Nat.le_refl _⟩ (Nat.le_of_ble_eq_true rfl) (o_ops61 γ) (fun v1 S1 I1 J1 hp => ?_)
          obtain ⟨rfl, rfl, rfl, rfl⟩ := hp
          show Rj _ _ _ _ _ _ (26, [some (.ref 79), some (.int f), some (.int (nI e)), some (.ref 76), some (.int (nI (r.length + 2))), some (.int (nI k)), some (.int 61), none], [.int 2], (SS b c), (sQ 86 I g), J, 0, 0)
          refine r_run okX6_reckon 3 (cs := []) (σ' := (32, [some (.ref 79), some (.int f), some (.int (nI e)), some (.ref 76), some (.int (nI (r.length + 2))), some (.int (nI k)), some (.int 61), some (.int 2)], [.int 2, .int (nI (r.length + 2))], (SS b c), (sQ 86 I g), J, 0, 0)) rfl trivial ?_
          refine r_icmp okX6_reckon rfl (fun (h32 : (nI (r.length + 2)) < (2 : Int32)) => ?_) (fun (h32 : ¬ (nI (r.length + 2)) < (2 : Int32)) => ?_)
          · exact absurd h32 (nI_nlt (a := r.length + 2) (b := 2) (by omega) (by omega))
          · refine r_run okX6_reckon 4 (cs := []) (σ' := (42, [some (.ref 79), some (.int f), some (.int (nI e)), some (.ref 76), some (.int (nI (r.length + 2))), some (.int (nI k)), some (.int 61), some (.int 2)], [.int 32, .int ((nI (r.length + 2)) - 2)], (SS b c), (sQ 86 I g), J, 0, 0)) rfl trivial ?_
            simp only [esub]
            show Rj _ _ _ _ _ _ (42, [some (.ref 79), some (.int f), some (.int (nI e)), some (.ref 76), some (.int (nI (r.length + 2))), some (.int (nI k)), some (.int 61), some (.int 2)], [.int 32, .int (nI r.length)], (SS b c), (sQ 86 I g), J, 0, 0)
            refine r_icmp okX6_reckon rfl (fun (h42 : (nI r.length) < (32 : Int32)) => ?_) (fun (h42 : ¬ (nI r.length) < (32 : Int32)) => ?_)
            · refine r_run okX6_reckon 6 (cs := []) (σ' := (58, [some (.ref 79), some (.int f), some (.int (nI e)), some (.ref 76), some (.int ((nI (r.length + 2)) - 2)), some (.int (nI k)), some (.int 61), some (.int 2)], [.int 16, .int 61], (SS b c), (sQ 86 I g), J, 0, 0)) rfl trivial ?_
              simp only [esub]
              show Rj _ _ _ _ _ _ (58, [some (.ref 79), some (.int f), some (.int (nI e)), some (.ref 76), some (.int (nI r.length)), some (.int (nI k)), some (.int 61), some (.int 2)], [.int 16, .int 61], (SS b c), (sQ 86 I g), J, 0, 0)
              refine r_icmp okX6_reckon rfl (fun (h58 : ¬ (61 : Int32) = (16 : Int32)) => ?_) (fun h580 => ?_)
              · refine r_run okX6_reckon 1 (cs := []) (σ' := (80, [some (.ref 79), some (.int f), some (.int (nI e)), some (.ref 76), some (.int (nI r.length)), some (.int (nI k)), some (.int 61), some (.int 2)], [.int 2], (SS b c), (sQ 86 I g), J, 0, 0)) rfl trivial ?_
                refine r_ifc okX6_reckon rfl (fun (h80 : ¬ (2 : Int32) = (0 : Int32)) => ?_) (fun h800 => ?_)
                · refine r_run okX6_reckon 2 (cs := []) (σ' := (104, [some (.ref 79), some (.int f), some (.int (nI e)), some (.ref 76), some (.int (nI r.length)), some (.int (nI k)), some (.int 61), some (.int 2)], [.int 6, .int 61], (SS b c), (sQ 86 I g), J, 0, 0)) rfl trivial ?_
                  refine r_icmp okX6_reckon rfl (fun (h104 : ¬ (61 : Int32) = (6 : Int32)) => ?_) (fun h1040 => ?_)
                  · refine r_run okX6_reckon 2 (cs := []) (σ' := (130, [some (.ref 79), some (.int f), some (.int (nI e)), some (.ref 76), some (.int (nI r.length)), some (.int (nI k)), some (.int 61), some (.int 2)], [.int 47, .int 61], (SS b c), (sQ 86 I g), J, 0, 0)) rfl trivial ?_
                    refine r_icmp okX6_reckon rfl (fun (h130 : ¬ (61 : Int32) = (47 : Int32)) => ?_) (fun h1300 => ?_)
                    · refine r_run okX6_reckon 14 (cs := [vp_in (nI r.length) 32, vp_in ((nI r.length) + 1) 32]) (σ' := (196, [some (.ref 79), some (.int f), some (.int (nI e)), some (.ref 76), some (.int (nI r.length)), some (.int (nI k)), some (.int 61), some (.int 2)], [.int (g (((nI r.length) + 1).toNatClampNeg)), .int (g ((nI r.length).toNatClampNeg)), .int 61, .int (nI r.length), .ref 86], (SS b c), (sQ 86 I g), J, 0, 0)) rfl ⟨(vin (by omega) (by decide)), (by rw [nI_eq1]; exact vin (by omega) (by decide)), trivial⟩ ?_
                      simp only [cs1, nI_eq1, cs2, hy, hx]
                      show Rj _ _ _ _ _ _ (196, [some (.ref 79), some (.int f), some (.int (nI e)), some (.ref 76), some (.int (nI r.length)), some (.int (nI k)), some (.int 61), some (.int 2)], [.int y, .int x, .int 61, .int (nI r.length), .ref 86], (SS b c), (sQ 86 I g), J, 0, 0)
                      refine r_callS okX6_reckon okX6_join [.int 61, .int x, .int y] [.int (nI r.length), .ref 86] rfl rfl rfl kkX6_join rfl rfl (by decide) (by decide) ⟨Nat.le_refl _, Nat.le_refl _⟩ (Nat.le_of_ble_eq_true rfl) (o_join61 γ x y) (fun v1 S1 I1 J1 hp => ?_)
                      obtain ⟨rfl, rfl, rfl, rfl⟩ := hp
                      show Rj _ _ _ _ _ _ (199, [some (.ref 79), some (.int f), some (.int (nI e)), some (.ref 76), some (.int (nI r.length)), some (.int (nI k)), some (.int 61), some (.int 2)], [.int (if x = y then 1 else 0), .int (nI r.length), .ref 86], (SS b c), (sQ 86 I g), J, 0, 0)
                      refine r_run okX6_reckon 4 (cs := [vp_in (nI r.length) 32]) (σ' := (6, [some (.ref 79), some (.int f), some (.int (nI e)), some (.ref 76), some (.int ((nI r.length) + 1)), some (.int ((nI k) + 1)), some (.int 61), some (.int 2)], [], (SS b c), (upI (sQ 86 I g) 86 ((nI r.length).toNatClampNeg) (if x = y then 1 else 0)), J, 0, 0)) rfl ⟨(vin (by omega) (by decide)), trivial⟩ ?_
                      simp only [cs1, nI_eq1]
                      show Rj _ _ _ _ _ _ (6, [some (.ref 79), some (.int f), some (.int (nI e)), some (.ref 76), some (.int (nI (r.length + 1))), some (.int (nI (k + 1))), some (.int 61), some (.int 2)], [], (SS b c), (upI (sQ 86 I g) 86 r.length (if x = y then 1 else 0)), J, 0, 0)
                      rw [sQ_u]
                      refine r_weak (L' := [some (.ref 79), some (.int f), some (.int (nI e)), some (.ref 76), some (.int (nI (r.length + 1))), some (.int (nI (k + 1))), none, none]) ⟨rfl, rfl, rfl, rfl, rfl, rfl, trivial⟩ ?_
                      refine ih (k + 1) ((if x = y then 1 else 0) :: r) (true :: r0) _ (by omega) (by rw [List.length_cons]; exact ht1) ⟨(fun _ => bz_if), hBr⟩ hc3 ⟨upd_t, StL_u (Nat.le_refl _) hLr⟩ hty1 ?_
                      refine Eq.trans (congrArg (evC h c0) ?_) hev
                      exact Eq.symm rfl
                    · have h130 : (61 : Int32) = (47 : Int32) := Classical.not_not.mp h1300
                      exact absurd h130 (by decide)
                  · have h104 : (61 : Int32) = (6 : Int32) := Classical.not_not.mp h1040
                    exact absurd h104 (by decide)
                · have h80 : (2 : Int32) = (0 : Int32) := Classical.not_not.mp h800
                  exact absurd h80 (by decide)
              · have h58 : (61 : Int32) = (16 : Int32) := Classical.not_not.mp h580
                exact absurd h58 (by decide)
            · exact absurd (nI_lt (a := r.length) (b := 32) (by omega) (by decide)) h42
      · have e1 : o1 = 8 := e1
        subst e1
        subst e2
        have hc1 : I 80 k = 62 := hc1
        subst er
        obtain ⟨y, r1, rfl, by_, hB1⟩ := StB_c hB
        obtain ⟨x, r, rfl, bx, hBr⟩ := StB_c hB1
        obtain ⟨hy, hx, hLr⟩ := hL
        have hy : g (r.length + 1) = y := hy
        have hln := StB_len hBr
        rw [List.length_cons, List.length_cons] at ht
        rw [List.length_cons] at ht1
        have cs1 : (nI r.length).toNatClampNeg = r.length := nI_clamp (by omega)
        have cs2 : (nI (r.length + 1)).toNatClampNeg = r.length + 1 := nI_clamp (by omega)
        have esub : nI (r.length + 2) - 2 = nI r.length := by rw [show (2 : Int32) = nI 2 from rfl, pk_sub (by omega), Nat.add_sub_cancel]
        refine r_run okX6_reckon 2 (cs := []) (σ' := (9, [some (.ref 79), some (.int f), some (.int (nI e)), some (.ref 76), some (.int (nI (r.length + 2))), some (.int (nI k)), none, none], [.int (nI e), .int (nI k)], (SS b c), (sQ 86 I g), J, 0, 0)) rfl trivial ?_
        refine r_icmp okX6_reckon rfl (fun (h9 : (nI e) ≤ (nI k)) => ?_) (fun (h9 : ¬ (nI e) ≤ (nI k)) => ?_)
        · exact absurd h9 (nI_ge (by omega) (by omega))
        · refine r_run okX6_reckon 6 (cs := [vp_in (nI k) 800]) (σ' := (23, [some (.ref 79), some (.int f), some (.int (nI e)), some (.ref 76), some (.int (nI (r.length + 2))), some (.int (nI k)), some (.int (I 80 ((nI k).toNatClampNeg))), none], [.int (I 80 ((nI k).toNatClampNeg))], (SS b c), (sQ 86 I g), J, 0, 0)) rfl ⟨(vin (by omega) (by decide)), trivial⟩ ?_
          simp only [ck, hc1]
          show Rj _ _ _ _ _ _ (23, [some (.ref 79), some (.int f), some (.int (nI e)), some (.ref 76), some (.int (nI (r.length + 2))), some (.int (nI k)), some (.int 62), none], [.int 62], (SS b c), (sQ 86 I g), J, 0, 0)
          refine r_callS okX6_reckon okX6_operands [.int 62] [] rfl rfl rfl kkX6_operands rfl rfl (by decide) (by decide) ⟨Nat.le_refl _, Nat.le_refl _⟩ (Nat.le_of_ble_eq_true rfl) (o_ops62 γ) (fun v1 S1 I1 J1 hp => ?_)
          obtain ⟨rfl, rfl, rfl, rfl⟩ := hp
          show Rj _ _ _ _ _ _ (26, [some (.ref 79), some (.int f), some (.int (nI e)), some (.ref 76), some (.int (nI (r.length + 2))), some (.int (nI k)), some (.int 62), none], [.int 2], (SS b c), (sQ 86 I g), J, 0, 0)
          refine r_run okX6_reckon 3 (cs := []) (σ' := (32, [some (.ref 79), some (.int f), some (.int (nI e)), some (.ref 76), some (.int (nI (r.length + 2))), some (.int (nI k)), some (.int 62), some (.int 2)], [.int 2, .int (nI (r.length + 2))], (SS b c), (sQ 86 I g), J, 0, 0)) rfl trivial ?_
          refine r_icmp okX6_reckon rfl (fun (h32 : (nI (r.length + 2)) < (2 : Int32)) => ?_) (fun (h32 : ¬ (nI (r.length + 2)) < (2 : Int32)) => ?_)
          · exact absurd h32 (nI_nlt (a := r.length + 2) (b := 2) (by omega) (by omega))
          · refine r_run okX6_reckon 4 (cs := []) (σ' := (42, [some (.ref 79), some (.int f), some (.int (nI e)), some (.ref 76), some (.int (nI (r.length + 2))), some (.int (nI k)), some (.int 62), some (.int 2)], [.int 32, .int ((nI (r.length + 2)) - 2)], (SS b c), (sQ 86 I g), J, 0, 0)) rfl trivial ?_
            simp only [esub]
            show Rj _ _ _ _ _ _ (42, [some (.ref 79), some (.int f), some (.int (nI e)), some (.ref 76), some (.int (nI (r.length + 2))), some (.int (nI k)), some (.int 62), some (.int 2)], [.int 32, .int (nI r.length)], (SS b c), (sQ 86 I g), J, 0, 0)
            refine r_icmp okX6_reckon rfl (fun (h42 : (nI r.length) < (32 : Int32)) => ?_) (fun (h42 : ¬ (nI r.length) < (32 : Int32)) => ?_)
            · refine r_run okX6_reckon 6 (cs := []) (σ' := (58, [some (.ref 79), some (.int f), some (.int (nI e)), some (.ref 76), some (.int ((nI (r.length + 2)) - 2)), some (.int (nI k)), some (.int 62), some (.int 2)], [.int 16, .int 62], (SS b c), (sQ 86 I g), J, 0, 0)) rfl trivial ?_
              simp only [esub]
              show Rj _ _ _ _ _ _ (58, [some (.ref 79), some (.int f), some (.int (nI e)), some (.ref 76), some (.int (nI r.length)), some (.int (nI k)), some (.int 62), some (.int 2)], [.int 16, .int 62], (SS b c), (sQ 86 I g), J, 0, 0)
              refine r_icmp okX6_reckon rfl (fun (h58 : ¬ (62 : Int32) = (16 : Int32)) => ?_) (fun h580 => ?_)
              · refine r_run okX6_reckon 1 (cs := []) (σ' := (80, [some (.ref 79), some (.int f), some (.int (nI e)), some (.ref 76), some (.int (nI r.length)), some (.int (nI k)), some (.int 62), some (.int 2)], [.int 2], (SS b c), (sQ 86 I g), J, 0, 0)) rfl trivial ?_
                refine r_ifc okX6_reckon rfl (fun (h80 : ¬ (2 : Int32) = (0 : Int32)) => ?_) (fun h800 => ?_)
                · refine r_run okX6_reckon 2 (cs := []) (σ' := (104, [some (.ref 79), some (.int f), some (.int (nI e)), some (.ref 76), some (.int (nI r.length)), some (.int (nI k)), some (.int 62), some (.int 2)], [.int 6, .int 62], (SS b c), (sQ 86 I g), J, 0, 0)) rfl trivial ?_
                  refine r_icmp okX6_reckon rfl (fun (h104 : ¬ (62 : Int32) = (6 : Int32)) => ?_) (fun h1040 => ?_)
                  · refine r_run okX6_reckon 2 (cs := []) (σ' := (130, [some (.ref 79), some (.int f), some (.int (nI e)), some (.ref 76), some (.int (nI r.length)), some (.int (nI k)), some (.int 62), some (.int 2)], [.int 47, .int 62], (SS b c), (sQ 86 I g), J, 0, 0)) rfl trivial ?_
                    refine r_icmp okX6_reckon rfl (fun (h130 : ¬ (62 : Int32) = (47 : Int32)) => ?_) (fun h1300 => ?_)
                    · refine r_run okX6_reckon 14 (cs := [vp_in (nI r.length) 32, vp_in ((nI r.length) + 1) 32]) (σ' := (196, [some (.ref 79), some (.int f), some (.int (nI e)), some (.ref 76), some (.int (nI r.length)), some (.int (nI k)), some (.int 62), some (.int 2)], [.int (g (((nI r.length) + 1).toNatClampNeg)), .int (g ((nI r.length).toNatClampNeg)), .int 62, .int (nI r.length), .ref 86], (SS b c), (sQ 86 I g), J, 0, 0)) rfl ⟨(vin (by omega) (by decide)), (by rw [nI_eq1]; exact vin (by omega) (by decide)), trivial⟩ ?_
                      simp only [cs1, nI_eq1, cs2, hy, hx]
                      show Rj _ _ _ _ _ _ (196, [some (.ref 79), some (.int f), some (.int (nI e)), some (.ref 76), some (.int (nI r.length)), some (.int (nI k)), some (.int 62), some (.int 2)], [.int y, .int x, .int 62, .int (nI r.length), .ref 86], (SS b c), (sQ 86 I g), J, 0, 0)
                      refine r_callS okX6_reckon okX6_join [.int 62, .int x, .int y] [.int (nI r.length), .ref 86] rfl rfl rfl kkX6_join rfl rfl (by decide) (by decide) ⟨Nat.le_refl _, Nat.le_refl _⟩ (Nat.le_of_ble_eq_true rfl) (o_join62 γ x y) (fun v1 S1 I1 J1 hp => ?_)
                      obtain ⟨rfl, rfl, rfl, rfl⟩ := hp
                      show Rj _ _ _ _ _ _ (199, [some (.ref 79), some (.int f), some (.int (nI e)), some (.ref 76), some (.int (nI r.length)), some (.int (nI k)), some (.int 62), some (.int 2)], [.int (if y < x then 1 else 0), .int (nI r.length), .ref 86], (SS b c), (sQ 86 I g), J, 0, 0)
                      refine r_run okX6_reckon 4 (cs := [vp_in (nI r.length) 32]) (σ' := (6, [some (.ref 79), some (.int f), some (.int (nI e)), some (.ref 76), some (.int ((nI r.length) + 1)), some (.int ((nI k) + 1)), some (.int 62), some (.int 2)], [], (SS b c), (upI (sQ 86 I g) 86 ((nI r.length).toNatClampNeg) (if y < x then 1 else 0)), J, 0, 0)) rfl ⟨(vin (by omega) (by decide)), trivial⟩ ?_
                      simp only [cs1, nI_eq1]
                      show Rj _ _ _ _ _ _ (6, [some (.ref 79), some (.int f), some (.int (nI e)), some (.ref 76), some (.int (nI (r.length + 1))), some (.int (nI (k + 1))), some (.int 62), some (.int 2)], [], (SS b c), (upI (sQ 86 I g) 86 r.length (if y < x then 1 else 0)), J, 0, 0)
                      rw [sQ_u]
                      refine r_weak (L' := [some (.ref 79), some (.int f), some (.int (nI e)), some (.ref 76), some (.int (nI (r.length + 1))), some (.int (nI (k + 1))), none, none]) ⟨rfl, rfl, rfl, rfl, rfl, rfl, trivial⟩ ?_
                      refine ih (k + 1) ((if y < x then 1 else 0) :: r) (true :: r0) _ (by omega) (by rw [List.length_cons]; exact ht1) ⟨(fun _ => bz_if), hBr⟩ hc3 ⟨upd_t, StL_u (Nat.le_refl _) hLr⟩ hty1 ?_
                      refine Eq.trans (congrArg (evC h c0) ?_) hev
                      exact Eq.symm rfl
                    · have h130 : (62 : Int32) = (47 : Int32) := Classical.not_not.mp h1300
                      exact absurd h130 (by decide)
                  · have h104 : (62 : Int32) = (6 : Int32) := Classical.not_not.mp h1040
                    exact absurd h104 (by decide)
                · have h80 : (2 : Int32) = (0 : Int32) := Classical.not_not.mp h800
                  exact absurd h80 (by decide)
              · have h58 : (62 : Int32) = (16 : Int32) := Classical.not_not.mp h580
                exact absurd h58 (by decide)
            · exact absurd (nI_lt (a := r.length) (b := 32) (by omega) (by decide)) h42
    · rcases e1 with e1 | e1
      · have e1 : o1 = 10 := e1
        subst e1
        subst e2
        have hc1 : I 80 k = 5 := hc1
        subst er
        obtain ⟨y, r1, rfl, by_, hB1⟩ := StB_c hB
        obtain ⟨x, r, rfl, bx, hBr⟩ := StB_c hB1
        obtain ⟨hy, hx, hLr⟩ := hL
        have hy : g (r.length + 1) = y := hy
        have hln := StB_len hBr
        rw [List.length_cons, List.length_cons] at ht
        rw [List.length_cons] at ht1
        have cs1 : (nI r.length).toNatClampNeg = r.length := nI_clamp (by omega)
        have cs2 : (nI (r.length + 1)).toNatClampNeg = r.length + 1 := nI_clamp (by omega)
        have esub : nI (r.length + 2) - 2 = nI r.length := by rw [show (2 : Int32) = nI 2 from rfl, pk_sub (by omega), Nat.add_sub_cancel]
        have bx := bx rfl
        have by_ := by_ rfl
        refine r_run okX6_reckon 2 (cs := []) (σ' := (9, [some (.ref 79), some (.int f), some (.int (nI e)), some (.ref 76), some (.int (nI (r.length + 2))), some (.int (nI k)), none, none], [.int (nI e), .int (nI k)], (SS b c), (sQ 86 I g), J, 0, 0)) rfl trivial ?_
        refine r_icmp okX6_reckon rfl (fun (h9 : (nI e) ≤ (nI k)) => ?_) (fun (h9 : ¬ (nI e) ≤ (nI k)) => ?_)
        · exact absurd h9 (nI_ge (by omega) (by omega))
        · refine r_run okX6_reckon 6 (cs := [vp_in (nI k) 800]) (σ' := (23, [some (.ref 79), some (.int f), some (.int (nI e)), some (.ref 76), some (.int (nI (r.length + 2))), some (.int (nI k)), some (.int (I 80 ((nI k).toNatClampNeg))), none], [.int (I 80 ((nI k).toNatClampNeg))], (SS b c), (sQ 86 I g), J, 0, 0)) rfl ⟨(vin (by omega) (by decide)), trivial⟩ ?_
          simp only [ck, hc1]
          show Rj _ _ _ _ _ _ (23, [some (.ref 79), some (.int f), some (.int (nI e)), some (.ref 76), some (.int (nI (r.length + 2))), some (.int (nI k)), some (.int 5), none], [.int 5], (SS b c), (sQ 86 I g), J, 0, 0)
          refine r_callS okX6_reckon okX6_operands [.int 5] [] rfl rfl rfl kkX6_operands rfl rfl (by decide) (by decide) ⟨Nat.le_refl _, Nat.le_refl _⟩ (Nat.le_of_ble_eq_true rfl) (o_ops5 γ) (fun v1 S1 I1 J1 hp => ?_)
          obtain ⟨rfl, rfl, rfl, rfl⟩ := hp
          show Rj _ _ _ _ _ _ (26, [some (.ref 79), some (.int f), some (.int (nI e)), some (.ref 76), some (.int (nI (r.length + 2))), some (.int (nI k)), some (.int 5), none], [.int 2], (SS b c), (sQ 86 I g), J, 0, 0)
          refine r_run okX6_reckon 3 (cs := []) (σ' := (32, [some (.ref 79), some (.int f), some (.int (nI e)), some (.ref 76), some (.int (nI (r.length + 2))), some (.int (nI k)), some (.int 5), some (.int 2)], [.int 2, .int (nI (r.length + 2))], (SS b c), (sQ 86 I g), J, 0, 0)) rfl trivial ?_
          refine r_icmp okX6_reckon rfl (fun (h32 : (nI (r.length + 2)) < (2 : Int32)) => ?_) (fun (h32 : ¬ (nI (r.length + 2)) < (2 : Int32)) => ?_)
          · exact absurd h32 (nI_nlt (a := r.length + 2) (b := 2) (by omega) (by omega))
          · refine r_run okX6_reckon 4 (cs := []) (σ' := (42, [some (.ref 79), some (.int f), some (.int (nI e)), some (.ref 76), some (.int (nI (r.length + 2))), some (.int (nI k)), some (.int 5), some (.int 2)], [.int 32, .int ((nI (r.length + 2)) - 2)], (SS b c), (sQ 86 I g), J, 0, 0)) rfl trivial ?_
            simp only [esub]
            show Rj _ _ _ _ _ _ (42, [some (.ref 79), some (.int f), some (.int (nI e)), some (.ref 76), some (.int (nI (r.length + 2))), some (.int (nI k)), some (.int 5), some (.int 2)], [.int 32, .int (nI r.length)], (SS b c), (sQ 86 I g), J, 0, 0)
            refine r_icmp okX6_reckon rfl (fun (h42 : (nI r.length) < (32 : Int32)) => ?_) (fun (h42 : ¬ (nI r.length) < (32 : Int32)) => ?_)
            · refine r_run okX6_reckon 6 (cs := []) (σ' := (58, [some (.ref 79), some (.int f), some (.int (nI e)), some (.ref 76), some (.int ((nI (r.length + 2)) - 2)), some (.int (nI k)), some (.int 5), some (.int 2)], [.int 16, .int 5], (SS b c), (sQ 86 I g), J, 0, 0)) rfl trivial ?_
              simp only [esub]
              show Rj _ _ _ _ _ _ (58, [some (.ref 79), some (.int f), some (.int (nI e)), some (.ref 76), some (.int (nI r.length)), some (.int (nI k)), some (.int 5), some (.int 2)], [.int 16, .int 5], (SS b c), (sQ 86 I g), J, 0, 0)
              refine r_icmp okX6_reckon rfl (fun (h58 : ¬ (5 : Int32) = (16 : Int32)) => ?_) (fun h580 => ?_)
              · refine r_run okX6_reckon 1 (cs := []) (σ' := (80, [some (.ref 79), some (.int f), some (.int (nI e)), some (.ref 76), some (.int (nI r.length)), some (.int (nI k)), some (.int 5), some (.int 2)], [.int 2], (SS b c), (sQ 86 I g), J, 0, 0)) rfl trivial ?_
                refine r_ifc okX6_reckon rfl (fun (h80 : ¬ (2 : Int32) = (0 : Int32)) => ?_) (fun h800 => ?_)
                · refine r_run okX6_reckon 2 (cs := []) (σ' := (104, [some (.ref 79), some (.int f), some (.int (nI e)), some (.ref 76), some (.int (nI r.length)), some (.int (nI k)), some (.int 5), some (.int 2)], [.int 6, .int 5], (SS b c), (sQ 86 I g), J, 0, 0)) rfl trivial ?_
                  refine r_icmp okX6_reckon rfl (fun (h104 : ¬ (5 : Int32) = (6 : Int32)) => ?_) (fun h1040 => ?_)
                  · refine r_run okX6_reckon 2 (cs := []) (σ' := (130, [some (.ref 79), some (.int f), some (.int (nI e)), some (.ref 76), some (.int (nI r.length)), some (.int (nI k)), some (.int 5), some (.int 2)], [.int 47, .int 5], (SS b c), (sQ 86 I g), J, 0, 0)) rfl trivial ?_
                    refine r_icmp okX6_reckon rfl (fun (h130 : ¬ (5 : Int32) = (47 : Int32)) => ?_) (fun h1300 => ?_)
                    · refine r_run okX6_reckon 14 (cs := [vp_in (nI r.length) 32, vp_in ((nI r.length) + 1) 32]) (σ' := (196, [some (.ref 79), some (.int f), some (.int (nI e)), some (.ref 76), some (.int (nI r.length)), some (.int (nI k)), some (.int 5), some (.int 2)], [.int (g (((nI r.length) + 1).toNatClampNeg)), .int (g ((nI r.length).toNatClampNeg)), .int 5, .int (nI r.length), .ref 86], (SS b c), (sQ 86 I g), J, 0, 0)) rfl ⟨(vin (by omega) (by decide)), (by rw [nI_eq1]; exact vin (by omega) (by decide)), trivial⟩ ?_
                      simp only [cs1, nI_eq1, cs2, hy, hx]
                      show Rj _ _ _ _ _ _ (196, [some (.ref 79), some (.int f), some (.int (nI e)), some (.ref 76), some (.int (nI r.length)), some (.int (nI k)), some (.int 5), some (.int 2)], [.int y, .int x, .int 5, .int (nI r.length), .ref 86], (SS b c), (sQ 86 I g), J, 0, 0)
                      refine r_callS okX6_reckon okX6_join [.int 5, .int x, .int y] [.int (nI r.length), .ref 86] rfl rfl rfl kkX6_join rfl rfl (by decide) (by decide) ⟨Nat.le_refl _, Nat.le_refl _⟩ (Nat.le_of_ble_eq_true rfl) (o_join5 γ x y) (fun v1 S1 I1 J1 hp => ?_)
                      obtain ⟨rfl, rfl, rfl, rfl⟩ := hp
                      show Rj _ _ _ _ _ _ (199, [some (.ref 79), some (.int f), some (.int (nI e)), some (.ref 76), some (.int (nI r.length)), some (.int (nI k)), some (.int 5), some (.int 2)], [.int (x &&& y), .int (nI r.length), .ref 86], (SS b c), (sQ 86 I g), J, 0, 0)
                      refine r_run okX6_reckon 4 (cs := [vp_in (nI r.length) 32]) (σ' := (6, [some (.ref 79), some (.int f), some (.int (nI e)), some (.ref 76), some (.int ((nI r.length) + 1)), some (.int ((nI k) + 1)), some (.int 5), some (.int 2)], [], (SS b c), (upI (sQ 86 I g) 86 ((nI r.length).toNatClampNeg) (x &&& y)), J, 0, 0)) rfl ⟨(vin (by omega) (by decide)), trivial⟩ ?_
                      simp only [cs1, nI_eq1]
                      show Rj _ _ _ _ _ _ (6, [some (.ref 79), some (.int f), some (.int (nI e)), some (.ref 76), some (.int (nI (r.length + 1))), some (.int (nI (k + 1))), some (.int 5), some (.int 2)], [], (SS b c), (upI (sQ 86 I g) 86 r.length (x &&& y)), J, 0, 0)
                      rw [sQ_u]
                      rw [(bz_and bx by_).1]
                      refine r_weak (L' := [some (.ref 79), some (.int f), some (.int (nI e)), some (.ref 76), some (.int (nI (r.length + 1))), some (.int (nI (k + 1))), none, none]) ⟨rfl, rfl, rfl, rfl, rfl, rfl, trivial⟩ ?_
                      refine ih (k + 1) ((x * y) :: r) (true :: r0) _ (by omega) (by rw [List.length_cons]; exact ht1) ⟨(fun _ => (bz_and bx by_).2), hBr⟩ hc3 ⟨upd_t, StL_u (Nat.le_refl _) hLr⟩ hty1 ?_
                      refine Eq.trans (congrArg (evC h c0) ?_) hev
                      exact Eq.symm rfl
                    · have h130 : (5 : Int32) = (47 : Int32) := Classical.not_not.mp h1300
                      exact absurd h130 (by decide)
                  · have h104 : (5 : Int32) = (6 : Int32) := Classical.not_not.mp h1040
                    exact absurd h104 (by decide)
                · have h80 : (2 : Int32) = (0 : Int32) := Classical.not_not.mp h800
                  exact absurd h80 (by decide)
              · have h58 : (5 : Int32) = (16 : Int32) := Classical.not_not.mp h580
                exact absurd h58 (by decide)
            · exact absurd (nI_lt (a := r.length) (b := 32) (by omega) (by decide)) h42
      · have e1 : o1 = 11 := e1
        subst e1
        subst e2
        have hc1 : I 80 k = 4 := hc1
        subst er
        obtain ⟨y, r1, rfl, by_, hB1⟩ := StB_c hB
        obtain ⟨x, r, rfl, bx, hBr⟩ := StB_c hB1
        obtain ⟨hy, hx, hLr⟩ := hL
        have hy : g (r.length + 1) = y := hy
        have hln := StB_len hBr
        rw [List.length_cons, List.length_cons] at ht
        rw [List.length_cons] at ht1
        have cs1 : (nI r.length).toNatClampNeg = r.length := nI_clamp (by omega)
        have cs2 : (nI (r.length + 1)).toNatClampNeg = r.length + 1 := nI_clamp (by omega)
        have esub : nI (r.length + 2) - 2 = nI r.length := by rw [show (2 : Int32) = nI 2 from rfl, pk_sub (by omega), Nat.add_sub_cancel]
        have bx := bx rfl
        have by_ := by_ rfl
        refine r_run okX6_reckon 2 (cs := []) (σ' := (9, [some (.ref 79), some (.int f), some (.int (nI e)), some (.ref 76), some (.int (nI (r.length + 2))), some (.int (nI k)), none, none], [.int (nI e), .int (nI k)], (SS b c), (sQ 86 I g), J, 0, 0)) rfl trivial ?_
        refine r_icmp okX6_reckon rfl (fun (h9 : (nI e) ≤ (nI k)) => ?_) (fun (h9 : ¬ (nI e) ≤ (nI k)) => ?_)
        · exact absurd h9 (nI_ge (by omega) (by omega))
        · refine r_run okX6_reckon 6 (cs := [vp_in (nI k) 800]) (σ' := (23, [some (.ref 79), some (.int f), some (.int (nI e)), some (.ref 76), some (.int (nI (r.length + 2))), some (.int (nI k)), some (.int (I 80 ((nI k).toNatClampNeg))), none], [.int (I 80 ((nI k).toNatClampNeg))], (SS b c), (sQ 86 I g), J, 0, 0)) rfl ⟨(vin (by omega) (by decide)), trivial⟩ ?_
          simp only [ck, hc1]
          show Rj _ _ _ _ _ _ (23, [some (.ref 79), some (.int f), some (.int (nI e)), some (.ref 76), some (.int (nI (r.length + 2))), some (.int (nI k)), some (.int 4), none], [.int 4], (SS b c), (sQ 86 I g), J, 0, 0)
          refine r_callS okX6_reckon okX6_operands [.int 4] [] rfl rfl rfl kkX6_operands rfl rfl (by decide) (by decide) ⟨Nat.le_refl _, Nat.le_refl _⟩ (Nat.le_of_ble_eq_true rfl) (o_ops4 γ) (fun v1 S1 I1 J1 hp => ?_)
          obtain ⟨rfl, rfl, rfl, rfl⟩ := hp
          show Rj _ _ _ _ _ _ (26, [some (.ref 79), some (.int f), some (.int (nI e)), some (.ref 76), some (.int (nI (r.length + 2))), some (.int (nI k)), some (.int 4), none], [.int 2], (SS b c), (sQ 86 I g), J, 0, 0)
          refine r_run okX6_reckon 3 (cs := []) (σ' := (32, [some (.ref 79), some (.int f), some (.int (nI e)), some (.ref 76), some (.int (nI (r.length + 2))), some (.int (nI k)), some (.int 4), some (.int 2)], [.int 2, .int (nI (r.length + 2))], (SS b c), (sQ 86 I g), J, 0, 0)) rfl trivial ?_
          refine r_icmp okX6_reckon rfl (fun (h32 : (nI (r.length + 2)) < (2 : Int32)) => ?_) (fun (h32 : ¬ (nI (r.length + 2)) < (2 : Int32)) => ?_)
          · exact absurd h32 (nI_nlt (a := r.length + 2) (b := 2) (by omega) (by omega))
          · refine r_run okX6_reckon 4 (cs := []) (σ' := (42, [some (.ref 79), some (.int f), some (.int (nI e)), some (.ref 76), some (.int (nI (r.length + 2))), some (.int (nI k)), some (.int 4), some (.int 2)], [.int 32, .int ((nI (r.length + 2)) - 2)], (SS b c), (sQ 86 I g), J, 0, 0)) rfl trivial ?_
            simp only [esub]
            show Rj _ _ _ _ _ _ (42, [some (.ref 79), some (.int f), some (.int (nI e)), some (.ref 76), some (.int (nI (r.length + 2))), some (.int (nI k)), some (.int 4), some (.int 2)], [.int 32, .int (nI r.length)], (SS b c), (sQ 86 I g), J, 0, 0)
            refine r_icmp okX6_reckon rfl (fun (h42 : (nI r.length) < (32 : Int32)) => ?_) (fun (h42 : ¬ (nI r.length) < (32 : Int32)) => ?_)
            · refine r_run okX6_reckon 6 (cs := []) (σ' := (58, [some (.ref 79), some (.int f), some (.int (nI e)), some (.ref 76), some (.int ((nI (r.length + 2)) - 2)), some (.int (nI k)), some (.int 4), some (.int 2)], [.int 16, .int 4], (SS b c), (sQ 86 I g), J, 0, 0)) rfl trivial ?_
              simp only [esub]
              show Rj _ _ _ _ _ _ (58, [some (.ref 79), some (.int f), some (.int (nI e)), some (.ref 76), some (.int (nI r.length)), some (.int (nI k)), some (.int 4), some (.int 2)], [.int 16, .int 4], (SS b c), (sQ 86 I g), J, 0, 0)
              refine r_icmp okX6_reckon rfl (fun (h58 : ¬ (4 : Int32) = (16 : Int32)) => ?_) (fun h580 => ?_)
              · refine r_run okX6_reckon 1 (cs := []) (σ' := (80, [some (.ref 79), some (.int f), some (.int (nI e)), some (.ref 76), some (.int (nI r.length)), some (.int (nI k)), some (.int 4), some (.int 2)], [.int 2], (SS b c), (sQ 86 I g), J, 0, 0)) rfl trivial ?_
                refine r_ifc okX6_reckon rfl (fun (h80 : ¬ (2 : Int32) = (0 : Int32)) => ?_) (fun h800 => ?_)
                · refine r_run okX6_reckon 2 (cs := []) (σ' := (104, [some (.ref 79), some (.int f), some (.int (nI e)), some (.ref 76), some (.int (nI r.length)), some (.int (nI k)), some (.int 4), some (.int 2)], [.int 6, .int 4], (SS b c), (sQ 86 I g), J, 0, 0)) rfl trivial ?_
                  refine r_icmp okX6_reckon rfl (fun (h104 : ¬ (4 : Int32) = (6 : Int32)) => ?_) (fun h1040 => ?_)
                  · refine r_run okX6_reckon 2 (cs := []) (σ' := (130, [some (.ref 79), some (.int f), some (.int (nI e)), some (.ref 76), some (.int (nI r.length)), some (.int (nI k)), some (.int 4), some (.int 2)], [.int 47, .int 4], (SS b c), (sQ 86 I g), J, 0, 0)) rfl trivial ?_
                    refine r_icmp okX6_reckon rfl (fun (h130 : ¬ (4 : Int32) = (47 : Int32)) => ?_) (fun h1300 => ?_)
                    · refine r_run okX6_reckon 14 (cs := [vp_in (nI r.length) 32, vp_in ((nI r.length) + 1) 32]) (σ' := (196, [some (.ref 79), some (.int f), some (.int (nI e)), some (.ref 76), some (.int (nI r.length)), some (.int (nI k)), some (.int 4), some (.int 2)], [.int (g (((nI r.length) + 1).toNatClampNeg)), .int (g ((nI r.length).toNatClampNeg)), .int 4, .int (nI r.length), .ref 86], (SS b c), (sQ 86 I g), J, 0, 0)) rfl ⟨(vin (by omega) (by decide)), (by rw [nI_eq1]; exact vin (by omega) (by decide)), trivial⟩ ?_
                      simp only [cs1, nI_eq1, cs2, hy, hx]
                      show Rj _ _ _ _ _ _ (196, [some (.ref 79), some (.int f), some (.int (nI e)), some (.ref 76), some (.int (nI r.length)), some (.int (nI k)), some (.int 4), some (.int 2)], [.int y, .int x, .int 4, .int (nI r.length), .ref 86], (SS b c), (sQ 86 I g), J, 0, 0)
                      refine r_callS okX6_reckon okX6_join [.int 4, .int x, .int y] [.int (nI r.length), .ref 86] rfl rfl rfl kkX6_join rfl rfl (by decide) (by decide) ⟨Nat.le_refl _, Nat.le_refl _⟩ (Nat.le_of_ble_eq_true rfl) (o_join4 γ x y) (fun v1 S1 I1 J1 hp => ?_)
                      obtain ⟨rfl, rfl, rfl, rfl⟩ := hp
                      show Rj _ _ _ _ _ _ (199, [some (.ref 79), some (.int f), some (.int (nI e)), some (.ref 76), some (.int (nI r.length)), some (.int (nI k)), some (.int 4), some (.int 2)], [.int (x ||| y), .int (nI r.length), .ref 86], (SS b c), (sQ 86 I g), J, 0, 0)
                      refine r_run okX6_reckon 4 (cs := [vp_in (nI r.length) 32]) (σ' := (6, [some (.ref 79), some (.int f), some (.int (nI e)), some (.ref 76), some (.int ((nI r.length) + 1)), some (.int ((nI k) + 1)), some (.int 4), some (.int 2)], [], (SS b c), (upI (sQ 86 I g) 86 ((nI r.length).toNatClampNeg) (x ||| y)), J, 0, 0)) rfl ⟨(vin (by omega) (by decide)), trivial⟩ ?_
                      simp only [cs1, nI_eq1]
                      show Rj _ _ _ _ _ _ (6, [some (.ref 79), some (.int f), some (.int (nI e)), some (.ref 76), some (.int (nI (r.length + 1))), some (.int (nI (k + 1))), some (.int 4), some (.int 2)], [], (SS b c), (upI (sQ 86 I g) 86 r.length (x ||| y)), J, 0, 0)
                      rw [sQ_u]
                      rw [(bz_or bx by_).1]
                      refine r_weak (L' := [some (.ref 79), some (.int f), some (.int (nI e)), some (.ref 76), some (.int (nI (r.length + 1))), some (.int (nI (k + 1))), none, none]) ⟨rfl, rfl, rfl, rfl, rfl, rfl, trivial⟩ ?_
                      refine ih (k + 1) ((if 0 < x + y then 1 else 0) :: r) (true :: r0) _ (by omega) (by rw [List.length_cons]; exact ht1) ⟨(fun _ => (bz_or bx by_).2), hBr⟩ hc3 ⟨upd_t, StL_u (Nat.le_refl _) hLr⟩ hty1 ?_
                      refine Eq.trans (congrArg (evC h c0) ?_) hev
                      exact Eq.symm rfl
                    · have h130 : (4 : Int32) = (47 : Int32) := Classical.not_not.mp h1300
                      exact absurd h130 (by decide)
                  · have h104 : (4 : Int32) = (6 : Int32) := Classical.not_not.mp h1040
                    exact absurd h104 (by decide)
                · have h80 : (2 : Int32) = (0 : Int32) := Classical.not_not.mp h800
                  exact absurd h80 (by decide)
              · have h58 : (4 : Int32) = (16 : Int32) := Classical.not_not.mp h580
                exact absurd h58 (by decide)
            · exact absurd (nI_lt (a := r.length) (b := 32) (by omega) (by decide)) h42
theorem o_reckon79 (γ : GE) {b c : Bool} {I : AI} {J : AJ} (h : Nat → Int32) (hh : ∀ q, q < 9 → I 76 q = h q) (v : Int32) (z : Bool) {e k : Nat} (he : e ≤ 800) (c0 : Cd) (hk : k + c0.length = e) (hc : cdT I 79 k c0) (hty : tyCd c0 [] = some [z]) (hev : evC h c0 [] = [v]) : Ct γ mX6_reckon 1 0 0 [.ref 79, .int (nI k), .int (nI e), .ref 76] (SS b c) I J (fun rt S' I' J' => some (.int v) = rt ∧ (SS b c) = S' ∧ (∃ g, I' = sQ 86 I g) ∧ J = J') := by
  refine ct_of okX6_reckon (L := [some (.ref 79), some (.int (nI k)), some (.int (nI e)), some (.ref 76), none, none, none, none]) (Nat.le_of_ble_eq_true rfl) rfl ?_
  refine r_run okX6_reckon 4 (cs := []) (σ' := (6, [some (.ref 79), some (.int (nI k)), some (.int (nI e)), some (.ref 76), some (.int 0), some (.int (nI k)), none, none], [], (SS b c), I, J, 0, 0)) rfl trivial ?_
  have hm := lp_rk79 γ (I := I) (J := J) (b := b) (c := c) h hh (nI k) v z he c0 k [] [] (I 86) hk (by decide) trivial hc trivial hty hev
  rw [sQ_self] at hm
  exact hm
set_option maxHeartbeats 2000000 in
theorem lp_rk87 (γ : GE) {b c : Bool} {I : AI} {J : AJ} (h : Nat → Int32) (hh : ∀ q, q < 9 → I 76 q = h q) (f v : Int32) (z : Bool) {e : Nat} (he : e ≤ 800) : ∀ (c0 : Cd) (k : Nat) (st : List Int32) (t : List Bool) (g : Nat → Int32), k + c0.length = e → t.length ≤ 32 → StB st t → cdT I 87 k c0 → StL g st → tyCd c0 t = some [z] → evC h c0 st = [v] → Rj γ mX6_reckon 1 0 0 (fun rt S' I' J' => some (.int v) = rt ∧ (SS b c) = S' ∧ (∃ g, I' = sQ 94 I g) ∧ J = J') (6, [some (.ref 87), some (.int f), some (.int (nI e)), some (.ref 76), some (.int (nI st.length)), some (.int (nI k)), none, none], [], (SS b c), (sQ 94 I g), J, 0, 0) := by
  intro c0
  induction c0 with
  | nil =>
    intro k st t g hk ht hB hc hL hty hev
    have hev : st = [v] := hev
    subst hev
    have hk : k = e := hk
    refine r_run okX6_reckon 2 (cs := []) (σ' := (9, [some (.ref 87), some (.int f), some (.int (nI e)), some (.ref 76), some (.int (nI 1)), some (.int (nI k)), none, none], [.int (nI e), .int (nI k)], (SS b c), (sQ 94 I g), J, 0, 0)) rfl trivial ?_
    refine r_icmp okX6_reckon rfl (fun (h9 : (nI e) ≤ (nI k)) => ?_) (fun (h9 : ¬ (nI e) ≤ (nI k)) => ?_)
    · refine r_run okX6_reckon 2 (cs := []) (σ' := (212, [some (.ref 87), some (.int f), some (.int (nI e)), some (.ref 76), some (.int (nI 1)), some (.int (nI k)), none, none], [.int 1, .int (nI 1)], (SS b c), (sQ 94 I g), J, 0, 0)) rfl trivial ?_
      refine r_icmp okX6_reckon rfl (fun (h212 : ¬ (nI 1) = (1 : Int32)) => ?_) (fun h2120 => ?_)
      · exact absurd rfl h212
      · have h212 : (nI 1) = (1 : Int32) := Classical.not_not.mp h2120
        refine r_run okX6_reckon 5 (cs := [vp_in 0 32]) (σ' := (225, [some (.ref 87), some (.int f), some (.int (nI e)), some (.ref 76), some (.int (nI 1)), some (.int (nI k)), none, none], [.int (g ((0 : Int32).toNatClampNeg))], (SS b c), (sQ 94 I g), J, 0, 0)) rfl ⟨(vin (a := 0) (by decide) (by decide)), trivial⟩ ?_
        refine r_iret okX6_reckon rfl rfl rfl (Nat.le_refl _) (Nat.le_refl _) ?_
        exact ⟨by rw [show g ((0 : Int32).toNatClampNeg) = v from hL.1], rfl, ⟨g, rfl⟩, rfl⟩
    · exact absurd (nI_le (by omega) (by omega)) h9
  | cons p c0 ih =>
    intro k st t g hk ht hB hc hL hty hev
    rw [List.length_cons] at hk
    obtain ⟨hc1, hc2, hc3⟩ := hc
    have ck : (nI k).toNatClampNeg = k := nI_clamp (by omega)
    obtain ⟨t1, hs, ht1, hty1⟩ : ∃ t1, tyS p t = some t1 ∧ t1.length ≤ 32 ∧ tyCd c0 t1 = some [z] := by
      unfold tyCd at hty
      cases q : tyS p t with
      | none => rw [q] at hty; cases hty
      | some t1 =>
        rw [q] at hty
        by_cases hl : t1.length ≤ 32
        · simp only [hl, if_true] at hty; exact ⟨t1, rfl, hl, hty⟩
        · simp only [hl, if_false] at hty; cases hty
    obtain ⟨o1, o2⟩ := p
    have hev : evC h c0 (aStp h (o1, o2) st) = [v] := hev
    rcases tyS_c hs with ⟨e1, e2⟩ | ⟨e1, e3, e2⟩ | ⟨e1, hnz, r0, er, e2⟩ | ⟨e1, r0, er, e2⟩ | ⟨e1, r0, er, e2⟩ | ⟨e1, r0, er, e2⟩ | ⟨e1, r0, er, e2⟩
    · have e1 : o1 = 0 := e1
      subst e1
      subst e2
      have hc1 : I 88 k = 16 := hc1
      have hc2 : I 89 k = o2 := hc2
      have hln := StB_len hB
      have h32 : st.length + 1 ≤ 32 := by rw [hln]; exact ht1
      have cs1 : (nI st.length).toNatClampNeg = st.length := nI_clamp (by omega)
      refine r_run okX6_reckon 2 (cs := []) (σ' := (9, [some (.ref 87), some (.int f), some (.int (nI e)), some (.ref 76), some (.int (nI st.length)), some (.int (nI k)), none, none], [.int (nI e), .int (nI k)], (SS b c), (sQ 94 I g), J, 0, 0)) rfl trivial ?_
      refine r_icmp okX6_reckon rfl (fun (h9 : (nI e) ≤ (nI k)) => ?_) (fun (h9 : ¬ (nI e) ≤ (nI k)) => ?_)
      · exact absurd h9 (nI_ge (by omega) (by omega))
      · refine r_run okX6_reckon 6 (cs := [vp_in (nI k) 800]) (σ' := (23, [some (.ref 87), some (.int f), some (.int (nI e)), some (.ref 76), some (.int (nI st.length)), some (.int (nI k)), some (.int (I 88 ((nI k).toNatClampNeg))), none], [.int (I 88 ((nI k).toNatClampNeg))], (SS b c), (sQ 94 I g), J, 0, 0)) rfl ⟨(vin (by omega) (by decide)), trivial⟩ ?_
        simp only [ck, hc1]
        show Rj _ _ _ _ _ _ (23, [some (.ref 87), some (.int f), some (.int (nI e)), some (.ref 76), some (.int (nI st.length)), some (.int (nI k)), some (.int 16), none], [.int 16], (SS b c), (sQ 94 I g), J, 0, 0)
        refine r_callS okX6_reckon okX6_operands [.int 16] [] rfl rfl rfl kkX6_operands rfl rfl (by decide) (by decide) ⟨Nat.le_refl _, Nat.le_refl _⟩ (Nat.le_of_ble_eq_true rfl) (o_ops16 γ) (fun v1 S1 I1 J1 hp => ?_)
        obtain ⟨rfl, rfl, rfl, rfl⟩ := hp
        show Rj _ _ _ _ _ _ (26, [some (.ref 87), some (.int f), some (.int (nI e)), some (.ref 76), some (.int (nI st.length)), some (.int (nI k)), some (.int 16), none], [.int 0], (SS b c), (sQ 94 I g), J, 0, 0)
        refine r_run okX6_reckon 3 (cs := []) (σ' := (32, [some (.ref 87), some (.int f), some (.int (nI e)), some (.ref 76), some (.int (nI st.length)), some (.int (nI k)), some (.int 16), some (.int 0)], [.int 0, .int (nI st.length)], (SS b c), (sQ 94 I g), J, 0, 0)) rfl trivial ?_
        refine r_icmp okX6_reckon rfl (fun (h32 : (nI st.length) < (0 : Int32)) => ?_) (fun (h32 : ¬ (nI st.length) < (0 : Int32)) => ?_)
        · exact absurd h32 (nI_nlt (a := st.length) (b := 0) (by omega) (by omega))
        · refine r_run okX6_reckon 4 (cs := []) (σ' := (42, [some (.ref 87), some (.int f), some (.int (nI e)), some (.ref 76), some (.int (nI st.length)), some (.int (nI k)), some (.int 16), some (.int 0)], [.int 32, .int ((nI st.length) - 0)], (SS b c), (sQ 94 I g), J, 0, 0)) rfl trivial ?_
          simp only [Int32.sub_zero]
          show Rj _ _ _ _ _ _ (42, [some (.ref 87), some (.int f), some (.int (nI e)), some (.ref 76), some (.int (nI st.length)), some (.int (nI k)), some (.int 16), some (.int 0)], [.int 32, .int (nI st.length)], (SS b c), (sQ 94 I g), J, 0, 0)
          refine r_icmp okX6_reckon rfl (fun (h42 : (nI st.length) < (32 : Int32)) => ?_) (fun (h42 : ¬ (nI st.length) < (32 : Int32)) => ?_)
          · refine r_run okX6_reckon 6 (cs := []) (σ' := (58, [some (.ref 87), some (.int f), some (.int (nI e)), some (.ref 76), some (.int ((nI st.length) - 0)), some (.int (nI k)), some (.int 16), some (.int 0)], [.int 16, .int 16], (SS b c), (sQ 94 I g), J, 0, 0)) rfl trivial ?_
            simp only [Int32.sub_zero]
            show Rj _ _ _ _ _ _ (58, [some (.ref 87), some (.int f), some (.int (nI e)), some (.ref 76), some (.int (nI st.length)), some (.int (nI k)), some (.int 16), some (.int 0)], [.int 16, .int 16], (SS b c), (sQ 94 I g), J, 0, 0)
            refine r_icmp okX6_reckon rfl (fun (h58 : ¬ (16 : Int32) = (16 : Int32)) => ?_) (fun h580 => ?_)
            · exact absurd h58 (by decide)
            · have h58 : (16 : Int32) = (16 : Int32) := Classical.not_not.mp h580
              refine r_run okX6_reckon 12 (cs := [vp_in (nI k) 800, vp_in (nI st.length) 32]) (σ' := (6, [some (.ref 87), some (.int f), some (.int (nI e)), some (.ref 76), some (.int ((nI st.length) + 1)), some (.int ((nI k) + 1)), some (.int 16), some (.int 0)], [], (SS b c), (upI (sQ 94 I g) 94 ((nI st.length).toNatClampNeg) (I 89 ((nI k).toNatClampNeg))), J, 0, 0)) rfl ⟨(vin (by omega) (by decide)), (vin (by omega) (by decide)), trivial⟩ ?_
              simp only [ck, hc2, cs1]
              show Rj _ _ _ _ _ _ (6, [some (.ref 87), some (.int f), some (.int (nI e)), some (.ref 76), some (.int ((nI st.length) + 1)), some (.int ((nI k) + 1)), some (.int 16), some (.int 0)], [], (SS b c), (upI (sQ 94 I g) 94 st.length o2), J, 0, 0)
              rw [sQ_u, nI_eq1, nI_eq1]
              refine r_weak (L' := [some (.ref 87), some (.int f), some (.int (nI e)), some (.ref 76), some (.int (nI (st.length + 1))), some (.int (nI (k + 1))), none, none]) ⟨rfl, rfl, rfl, rfl, rfl, rfl, trivial⟩ ?_
              refine ih (k + 1) (o2 :: st) (false :: t) _ (by omega) ht1 ⟨(fun q => by cases q), hB⟩ hc3 ⟨upd_t, StL_u (Nat.le_refl _) hL⟩ hty1 ?_
              refine Eq.trans (congrArg (evC h c0) ?_) hev
              exact Eq.symm rfl
          · exact absurd (nI_lt (a := st.length) (b := 32) (by omega) (by decide)) h42
    · have e1 : o1 = 1 := e1
      subst e1
      subst e2
      obtain ⟨q, hq, e3⟩ := e3
      have e3 : o2 = nI q := e3
      subst e3
      have hc1 : I 88 k = nI (7 + q) := hc1.trans (nI_ad 7 q)
      have e7 : nI (7 + q) - 7 = nI q := by rw [show (7 : Int32) = nI 7 from rfl, pk_sub (by omega), Nat.add_sub_cancel_left]
      have cq : (nI q).toNatClampNeg = q := nI_clamp (by omega)
      have h76 := hh q hq
      have hln := StB_len hB
      have h32 : st.length + 1 ≤ 32 := by rw [hln]; exact ht1
      have cs1 : (nI st.length).toNatClampNeg = st.length := nI_clamp (by omega)
      refine r_run okX6_reckon 2 (cs := []) (σ' := (9, [some (.ref 87), some (.int f), some (.int (nI e)), some (.ref 76), some (.int (nI st.length)), some (.int (nI k)), none, none], [.int (nI e), .int (nI k)], (SS b c), (sQ 94 I g), J, 0, 0)) rfl trivial ?_
      refine r_icmp okX6_reckon rfl (fun (h9 : (nI e) ≤ (nI k)) => ?_) (fun (h9 : ¬ (nI e) ≤ (nI k)) => ?_)
      · exact absurd h9 (nI_ge (by omega) (by omega))
      · refine r_run okX6_reckon 6 (cs := [vp_in (nI k) 800]) (σ' := (23, [some (.ref 87), some (.int f), some (.int (nI e)), some (.ref 76), some (.int (nI st.length)), some (.int (nI k)), some (.int (I 88 ((nI k).toNatClampNeg))), none], [.int (I 88 ((nI k).toNatClampNeg))], (SS b c), (sQ 94 I g), J, 0, 0)) rfl ⟨(vin (by omega) (by decide)), trivial⟩ ?_
        simp only [ck, hc1]
        show Rj _ _ _ _ _ _ (23, [some (.ref 87), some (.int f), some (.int (nI e)), some (.ref 76), some (.int (nI st.length)), some (.int (nI k)), some (.int (nI (7 + q))), none], [.int (nI (7 + q))], (SS b c), (sQ 94 I g), J, 0, 0)
        refine r_callS okX6_reckon okX6_operands [.int (nI (7 + q))] [] rfl rfl rfl kkX6_operands rfl rfl (by decide) (by decide) ⟨Nat.le_refl _, Nat.le_refl _⟩ (Nat.le_of_ble_eq_true rfl) (o_opsA γ hq) (fun v1 S1 I1 J1 hp => ?_)
        obtain ⟨rfl, rfl, rfl, rfl⟩ := hp
        show Rj _ _ _ _ _ _ (26, [some (.ref 87), some (.int f), some (.int (nI e)), some (.ref 76), some (.int (nI st.length)), some (.int (nI k)), some (.int (nI (7 + q))), none], [.int 0], (SS b c), (sQ 94 I g), J, 0, 0)
        refine r_run okX6_reckon 3 (cs := []) (σ' := (32, [some (.ref 87), some (.int f), some (.int (nI e)), some (.ref 76), some (.int (nI st.length)), some (.int (nI k)), some (.int (nI (7 + q))), some (.int 0)], [.int 0, .int (nI st.length)], (SS b c), (sQ 94 I g), J, 0, 0)) rfl trivial ?_
        refine r_icmp okX6_reckon rfl (fun (h32 : (nI st.length) < (0 : Int32)) => ?_) (fun (h32 : ¬ (nI st.length) < (0 : Int32)) => ?_)
        · exact absurd h32 (nI_nlt (a := st.length) (b := 0) (by omega) (by omega))
        · refine r_run okX6_reckon 4 (cs := []) (σ' := (42, [some (.ref 87), some (.int f), some (.int (nI e)), some (.ref 76), some (.int (nI st.length)), some (.int (nI k)), some (.int (nI (7 + q))), some (.int 0)], [.int 32, .int ((nI st.length) - 0)], (SS b c), (sQ 94 I g), J, 0, 0)) rfl trivial ?_
          simp only [Int32.sub_zero]
          show Rj _ _ _ _ _ _ (42, [some (.ref 87), some (.int f), some (.int (nI e)), some (.ref 76), some (.int (nI st.length)), some (.int (nI k)), some (.int (nI (7 + q))), some (.int 0)], [.int 32, .int (nI st.length)], (SS b c), (sQ 94 I g), J, 0, 0)
          refine r_icmp okX6_reckon rfl (fun (h42 : (nI st.length) < (32 : Int32)) => ?_) (fun (h42 : ¬ (nI st.length) < (32 : Int32)) => ?_)
          · refine r_run okX6_reckon 6 (cs := []) (σ' := (58, [some (.ref 87), some (.int f), some (.int (nI e)), some (.ref 76), some (.int ((nI st.length) - 0)), some (.int (nI k)), some (.int (nI (7 + q))), some (.int 0)], [.int 16, .int (nI (7 + q))], (SS b c), (sQ 94 I g), J, 0, 0)) rfl trivial ?_
            simp only [Int32.sub_zero]
            show Rj _ _ _ _ _ _ (58, [some (.ref 87), some (.int f), some (.int (nI e)), some (.ref 76), some (.int (nI st.length)), some (.int (nI k)), some (.int (nI (7 + q))), some (.int 0)], [.int 16, .int (nI (7 + q))], (SS b c), (sQ 94 I g), J, 0, 0)
            refine r_icmp okX6_reckon rfl (fun (h58 : ¬ (nI (7 + q)) = (16 : Int32)) => ?_) (fun h580 => ?_)
            · refine r_run okX6_reckon 1 (cs := []) (σ' := (80, [some (.ref 87), some (.int f), some (.int (nI e)), some (.ref 76), some (.int (nI st.length)), some (.int (nI k)), some (.int (nI (7 + q))), some (.int 0)], [.int 0], (SS b c), (sQ 94 I g), J, 0, 0)) rfl trivial ?_
              refine r_ifc okX6_reckon rfl (fun (h80 : ¬ (0 : Int32) = (0 : Int32)) => ?_) (fun h800 => ?_)
              · exact absurd h80 (by decide)
              · have h80 : (0 : Int32) = (0 : Int32) := Classical.not_not.mp h800
                refine r_run okX6_reckon 13 (cs := [vp_in ((nI (7 + q)) - 7) 9, vp_in (nI st.length) 32]) (σ' := (6, [some (.ref 87), some (.int f), some (.int (nI e)), some (.ref 76), some (.int ((nI st.length) + 1)), some (.int ((nI k) + 1)), some (.int (nI (7 + q))), some (.int 0)], [], (SS b c), (upI (sQ 94 I g) 94 ((nI st.length).toNatClampNeg) (I 76 (((nI (7 + q)) - 7).toNatClampNeg))), J, 0, 0)) rfl ⟨(by rw [e7]; exact vin hq (by decide)), (vin (by omega) (by decide)), trivial⟩ ?_
                simp only [cs1, e7, cq, h76]
                show Rj _ _ _ _ _ _ (6, [some (.ref 87), some (.int f), some (.int (nI e)), some (.ref 76), some (.int ((nI st.length) + 1)), some (.int ((nI k) + 1)), some (.int (nI (7 + q))), some (.int 0)], [], (SS b c), (upI (sQ 94 I g) 94 st.length (h q)), J, 0, 0)
                rw [sQ_u, nI_eq1, nI_eq1]
                refine r_weak (L' := [some (.ref 87), some (.int f), some (.int (nI e)), some (.ref 76), some (.int (nI (st.length + 1))), some (.int (nI (k + 1))), none, none]) ⟨rfl, rfl, rfl, rfl, rfl, rfl, trivial⟩ ?_
                refine ih (k + 1) ((h q) :: st) (false :: t) _ (by omega) ht1 ⟨(fun q => by cases q), hB⟩ hc3 ⟨upd_t, StL_u (Nat.le_refl _) hL⟩ hty1 ?_
                refine Eq.trans (congrArg (evC h c0) ?_) hev
                exact Eq.symm (by show (if (1 : Int32) = 5 then _ else mStp h _ st) = _; rw [if_neg (by decide)]; show h (nv (nI q)) :: st = _; rw [nv_nI (by omega)])
            · have h58 : (nI (7 + q)) = (16 : Int32) := Classical.not_not.mp h580
              exact absurd (nI_inj (a := 7 + q) (b := 16) (by omega) (by decide) h58) (by omega)
          · exact absurd (nI_lt (a := st.length) (b := 32) (by omega) (by decide)) h42
    · have e1 : o1 = 5 := e1
      subst e1
      subst e2
      have hc1 : I 88 k = 47 := hc1
      have hc2 : I 89 k = o2 := hc2
      have hnz : ¬ o2 = 0 := hnz
      subst er
      obtain ⟨x, r, rfl, bx, hBr⟩ := StB_c hB
      obtain ⟨hx, hLr⟩ := hL
      have hln := StB_len hBr
      rw [List.length_cons] at ht ht1
      have cs1 : (nI r.length).toNatClampNeg = r.length := nI_clamp (by omega)
      have esub : nI (r.length + 1) - 1 = nI r.length := nI_pred _
      refine r_run okX6_reckon 2 (cs := []) (σ' := (9, [some (.ref 87), some (.int f), some (.int (nI e)), some (.ref 76), some (.int (nI (r.length + 1))), some (.int (nI k)), none, none], [.int (nI e), .int (nI k)], (SS b c), (sQ 94 I g), J, 0, 0)) rfl trivial ?_
      refine r_icmp okX6_reckon rfl (fun (h9 : (nI e) ≤ (nI k)) => ?_) (fun (h9 : ¬ (nI e) ≤ (nI k)) => ?_)
      · exact absurd h9 (nI_ge (by omega) (by omega))
      · refine r_run okX6_reckon 6 (cs := [vp_in (nI k) 800]) (σ' := (23, [some (.ref 87), some (.int f), some (.int (nI e)), some (.ref 76), some (.int (nI (r.length + 1))), some (.int (nI k)), some (.int (I 88 ((nI k).toNatClampNeg))), none], [.int (I 88 ((nI k).toNatClampNeg))], (SS b c), (sQ 94 I g), J, 0, 0)) rfl ⟨(vin (by omega) (by decide)), trivial⟩ ?_
        simp only [ck, hc1]
        show Rj _ _ _ _ _ _ (23, [some (.ref 87), some (.int f), some (.int (nI e)), some (.ref 76), some (.int (nI (r.length + 1))), some (.int (nI k)), some (.int 47), none], [.int 47], (SS b c), (sQ 94 I g), J, 0, 0)
        refine r_callS okX6_reckon okX6_operands [.int 47] [] rfl rfl rfl kkX6_operands rfl rfl (by decide) (by decide) ⟨Nat.le_refl _, Nat.le_refl _⟩ (Nat.le_of_ble_eq_true rfl) (o_ops47 γ) (fun v1 S1 I1 J1 hp => ?_)
        obtain ⟨rfl, rfl, rfl, rfl⟩ := hp
        show Rj _ _ _ _ _ _ (26, [some (.ref 87), some (.int f), some (.int (nI e)), some (.ref 76), some (.int (nI (r.length + 1))), some (.int (nI k)), some (.int 47), none], [.int 1], (SS b c), (sQ 94 I g), J, 0, 0)
        refine r_run okX6_reckon 3 (cs := []) (σ' := (32, [some (.ref 87), some (.int f), some (.int (nI e)), some (.ref 76), some (.int (nI (r.length + 1))), some (.int (nI k)), some (.int 47), some (.int 1)], [.int 1, .int (nI (r.length + 1))], (SS b c), (sQ 94 I g), J, 0, 0)) rfl trivial ?_
        refine r_icmp okX6_reckon rfl (fun (h32 : (nI (r.length + 1)) < (1 : Int32)) => ?_) (fun (h32 : ¬ (nI (r.length + 1)) < (1 : Int32)) => ?_)
        · exact absurd h32 (nI_nlt (a := r.length + 1) (b := 1) (by omega) (by omega))
        · refine r_run okX6_reckon 4 (cs := []) (σ' := (42, [some (.ref 87), some (.int f), some (.int (nI e)), some (.ref 76), some (.int (nI (r.length + 1))), some (.int (nI k)), some (.int 47), some (.int 1)], [.int 32, .int ((nI (r.length + 1)) - 1)], (SS b c), (sQ 94 I g), J, 0, 0)) rfl trivial ?_
          simp only [esub]
          show Rj _ _ _ _ _ _ (42, [some (.ref 87), some (.int f), some (.int (nI e)), some (.ref 76), some (.int (nI (r.length + 1))), some (.int (nI k)), some (.int 47), some (.int 1)], [.int 32, .int (nI r.length)], (SS b c), (sQ 94 I g), J, 0, 0)
          refine r_icmp okX6_reckon rfl (fun (h42 : (nI r.length) < (32 : Int32)) => ?_) (fun (h42 : ¬ (nI r.length) < (32 : Int32)) => ?_)
          · refine r_run okX6_reckon 6 (cs := []) (σ' := (58, [some (.ref 87), some (.int f), some (.int (nI e)), some (.ref 76), some (.int ((nI (r.length + 1)) - 1)), some (.int (nI k)), some (.int 47), some (.int 1)], [.int 16, .int 47], (SS b c), (sQ 94 I g), J, 0, 0)) rfl trivial ?_
            simp only [esub]
            show Rj _ _ _ _ _ _ (58, [some (.ref 87), some (.int f), some (.int (nI e)), some (.ref 76), some (.int (nI r.length)), some (.int (nI k)), some (.int 47), some (.int 1)], [.int 16, .int 47], (SS b c), (sQ 94 I g), J, 0, 0)
            refine r_icmp okX6_reckon rfl (fun (h58 : ¬ (47 : Int32) = (16 : Int32)) => ?_) (fun h580 => ?_)
            · refine r_run okX6_reckon 1 (cs := []) (σ' := (80, [some (.ref 87), some (.int f), some (.int (nI e)), some (.ref 76), some (.int (nI r.length)), some (.int (nI k)), some (.int 47), some (.int 1)], [.int 1], (SS b c), (sQ 94 I g), J, 0, 0)) rfl trivial ?_
              refine r_ifc okX6_reckon rfl (fun (h80 : ¬ (1 : Int32) = (0 : Int32)) => ?_) (fun h800 => ?_)
              · refine r_run okX6_reckon 2 (cs := []) (σ' := (104, [some (.ref 87), some (.int f), some (.int (nI e)), some (.ref 76), some (.int (nI r.length)), some (.int (nI k)), some (.int 47), some (.int 1)], [.int 6, .int 47], (SS b c), (sQ 94 I g), J, 0, 0)) rfl trivial ?_
                refine r_icmp okX6_reckon rfl (fun (h104 : ¬ (47 : Int32) = (6 : Int32)) => ?_) (fun h1040 => ?_)
                · refine r_run okX6_reckon 2 (cs := []) (σ' := (130, [some (.ref 87), some (.int f), some (.int (nI e)), some (.ref 76), some (.int (nI r.length)), some (.int (nI k)), some (.int 47), some (.int 1)], [.int 47, .int 47], (SS b c), (sQ 94 I g), J, 0, 0)) rfl trivial ?_
                  refine r_icmp okX6_reckon rfl (fun (h130 : ¬ (47 : Int32) = (47 : Int32)) => ?_) (fun h1300 => ?_)
                  · exact absurd h130 (by decide)
                  · have h130 : (47 : Int32) = (47 : Int32) := Classical.not_not.mp h1300
                    refine r_run okX6_reckon 7 (cs := [vp_in (nI k) 800]) (σ' := (146, [some (.ref 87), some (.int f), some (.int (nI e)), some (.ref 76), some (.int (nI r.length)), some (.int (nI k)), some (.int 47), some (.int 1)], [.int (I 89 ((nI k).toNatClampNeg)), .int (nI r.length), .ref 94], (SS b c), (sQ 94 I g), J, 0, 0)) rfl ⟨(vin (by omega) (by decide)), trivial⟩ ?_
                    simp only [ck, hc2]
                    show Rj _ _ _ _ _ _ (146, [some (.ref 87), some (.int f), some (.int (nI e)), some (.ref 76), some (.int (nI r.length)), some (.int (nI k)), some (.int 47), some (.int 1)], [.int o2, .int (nI r.length), .ref 94], (SS b c), (sQ 94 I g), J, 0, 0)
                    refine r_ifc okX6_reckon rfl (fun (h146 : ¬ o2 = (0 : Int32)) => ?_) (fun h1460 => ?_)
                    · refine r_run okX6_reckon 14 (cs := [vp_in (nI r.length) 32, vp_in (nI k) 800, ¬ (I 89 ((nI k).toNatClampNeg)) = 0, vp_in (nI r.length) 32]) (σ' := (6, [some (.ref 87), some (.int f), some (.int (nI e)), some (.ref 76), some (.int ((nI r.length) + 1)), some (.int ((nI k) + 1)), some (.int 47), some (.int 1)], [], (SS b c), (upI (sQ 94 I g) 94 ((nI r.length).toNatClampNeg) ((g ((nI r.length).toNatClampNeg)) / (I 89 ((nI k).toNatClampNeg)))), J, 0, 0)) rfl ⟨(vin (by omega) (by decide)), (vin (by omega) (by decide)), (by rw [ck, hc2]; exact hnz), (vin (by omega) (by decide)), trivial⟩ ?_
                      simp only [ck, hc2, cs1, hx]
                      show Rj _ _ _ _ _ _ (6, [some (.ref 87), some (.int f), some (.int (nI e)), some (.ref 76), some (.int ((nI r.length) + 1)), some (.int ((nI k) + 1)), some (.int 47), some (.int 1)], [], (SS b c), (upI (sQ 94 I g) 94 r.length (x / o2)), J, 0, 0)
                      rw [sQ_u, nI_eq1, nI_eq1]
                      refine r_weak (L' := [some (.ref 87), some (.int f), some (.int (nI e)), some (.ref 76), some (.int (nI (r.length + 1))), some (.int (nI (k + 1))), none, none]) ⟨rfl, rfl, rfl, rfl, rfl, rfl, trivial⟩ ?_
                      refine ih (k + 1) ((x / o2) :: r) (false :: r0) _ (by omega) (by rw [List.length_cons]; exact ht1) ⟨(fun q => by cases q), hBr⟩ hc3 ⟨upd_t, StL_u (Nat.le_refl _) hLr⟩ hty1 ?_
                      refine Eq.trans (congrArg (evC h c0) ?_) hev
                      exact Eq.symm rfl
                    · have h146 : o2 = (0 : Int32) := Classical.not_not.mp h1460
                      exact absurd h146 hnz
                · have h104 : (47 : Int32) = (6 : Int32) := Classical.not_not.mp h1040
                  exact absurd h104 (by decide)
              · have h80 : (1 : Int32) = (0 : Int32) := Classical.not_not.mp h800
                exact absurd h80 (by decide)
            · have h58 : (47 : Int32) = (16 : Int32) := Classical.not_not.mp h580
              exact absurd h58 (by decide)
          · exact absurd (nI_lt (a := r.length) (b := 32) (by omega) (by decide)) h42
    · have e1 : o1 = 9 := e1
      subst e1
      subst e2
      have hc1 : I 88 k = 6 := hc1
      subst er
      obtain ⟨x, r, rfl, bx, hBr⟩ := StB_c hB
      obtain ⟨hx, hLr⟩ := hL
      have hln := StB_len hBr
      rw [List.length_cons] at ht ht1
      have cs1 : (nI r.length).toNatClampNeg = r.length := nI_clamp (by omega)
      have esub : nI (r.length + 1) - 1 = nI r.length := nI_pred _
      have bx := bx rfl
      refine r_run okX6_reckon 2 (cs := []) (σ' := (9, [some (.ref 87), some (.int f), some (.int (nI e)), some (.ref 76), some (.int (nI (r.length + 1))), some (.int (nI k)), none, none], [.int (nI e), .int (nI k)], (SS b c), (sQ 94 I g), J, 0, 0)) rfl trivial ?_
      refine r_icmp okX6_reckon rfl (fun (h9 : (nI e) ≤ (nI k)) => ?_) (fun (h9 : ¬ (nI e) ≤ (nI k)) => ?_)
      · exact absurd h9 (nI_ge (by omega) (by omega))
      · refine r_run okX6_reckon 6 (cs := [vp_in (nI k) 800]) (σ' := (23, [some (.ref 87), some (.int f), some (.int (nI e)), some (.ref 76), some (.int (nI (r.length + 1))), some (.int (nI k)), some (.int (I 88 ((nI k).toNatClampNeg))), none], [.int (I 88 ((nI k).toNatClampNeg))], (SS b c), (sQ 94 I g), J, 0, 0)) rfl ⟨(vin (by omega) (by decide)), trivial⟩ ?_
        simp only [ck, hc1]
        show Rj _ _ _ _ _ _ (23, [some (.ref 87), some (.int f), some (.int (nI e)), some (.ref 76), some (.int (nI (r.length + 1))), some (.int (nI k)), some (.int 6), none], [.int 6], (SS b c), (sQ 94 I g), J, 0, 0)
        refine r_callS okX6_reckon okX6_operands [.int 6] [] rfl rfl rfl kkX6_operands rfl rfl (by decide) (by decide) ⟨Nat.le_refl _, Nat.le_refl _⟩ (Nat.le_of_ble_eq_true rfl) (o_ops6 γ) (fun v1 S1 I1 J1 hp => ?_)
        obtain ⟨rfl, rfl, rfl, rfl⟩ := hp
        show Rj _ _ _ _ _ _ (26, [some (.ref 87), some (.int f), some (.int (nI e)), some (.ref 76), some (.int (nI (r.length + 1))), some (.int (nI k)), some (.int 6), none], [.int 1], (SS b c), (sQ 94 I g), J, 0, 0)
        refine r_run okX6_reckon 3 (cs := []) (σ' := (32, [some (.ref 87), some (.int f), some (.int (nI e)), some (.ref 76), some (.int (nI (r.length + 1))), some (.int (nI k)), some (.int 6), some (.int 1)], [.int 1, .int (nI (r.length + 1))], (SS b c), (sQ 94 I g), J, 0, 0)) rfl trivial ?_
        refine r_icmp okX6_reckon rfl (fun (h32 : (nI (r.length + 1)) < (1 : Int32)) => ?_) (fun (h32 : ¬ (nI (r.length + 1)) < (1 : Int32)) => ?_)
        · exact absurd h32 (nI_nlt (a := r.length + 1) (b := 1) (by omega) (by omega))
        · refine r_run okX6_reckon 4 (cs := []) (σ' := (42, [some (.ref 87), some (.int f), some (.int (nI e)), some (.ref 76), some (.int (nI (r.length + 1))), some (.int (nI k)), some (.int 6), some (.int 1)], [.int 32, .int ((nI (r.length + 1)) - 1)], (SS b c), (sQ 94 I g), J, 0, 0)) rfl trivial ?_
          simp only [esub]
          show Rj _ _ _ _ _ _ (42, [some (.ref 87), some (.int f), some (.int (nI e)), some (.ref 76), some (.int (nI (r.length + 1))), some (.int (nI k)), some (.int 6), some (.int 1)], [.int 32, .int (nI r.length)], (SS b c), (sQ 94 I g), J, 0, 0)
          refine r_icmp okX6_reckon rfl (fun (h42 : (nI r.length) < (32 : Int32)) => ?_) (fun (h42 : ¬ (nI r.length) < (32 : Int32)) => ?_)
          · refine r_run okX6_reckon 6 (cs := []) (σ' := (58, [some (.ref 87), some (.int f), some (.int (nI e)), some (.ref 76), some (.int ((nI (r.length + 1)) - 1)), some (.int (nI k)), some (.int 6), some (.int 1)], [.int 16, .int 6], (SS b c), (sQ 94 I g), J, 0, 0)) rfl trivial ?_
            simp only [esub]
            show Rj _ _ _ _ _ _ (58, [some (.ref 87), some (.int f), some (.int (nI e)), some (.ref 76), some (.int (nI r.length)), some (.int (nI k)), some (.int 6), some (.int 1)], [.int 16, .int 6], (SS b c), (sQ 94 I g), J, 0, 0)
            refine r_icmp okX6_reckon rfl (fun (h58 : ¬ (6 : Int32) = (16 : Int32)) => ?_) (fun h580 => ?_)
            · refine r_run okX6_reckon 1 (cs := []) (σ' := (80, [some (.ref 87), some (.int f), some (.int (nI e)), some (.ref 76), some (.int (nI r.length)), some (.int (nI k)), some (.int 6), some (.int 1)], [.int 1], (SS b c), (sQ 94 I g), J, 0, 0)) rfl trivial ?_
              refine r_ifc okX6_reckon rfl (fun (h80 : ¬ (1 : Int32) = (0 : Int32)) => ?_) (fun h800 => ?_)
              · refine r_run okX6_reckon 2 (cs := []) (σ' := (104, [some (.ref 87), some (.int f), some (.int (nI e)), some (.ref 76), some (.int (nI r.length)), some (.int (nI k)), some (.int 6), some (.int 1)], [.int 6, .int 6], (SS b c), (sQ 94 I g), J, 0, 0)) rfl trivial ?_
                refine r_icmp okX6_reckon rfl (fun (h104 : ¬ (6 : Int32) = (6 : Int32)) => ?_) (fun h1040 => ?_)
                · exact absurd h104 (by decide)
                · have h104 : (6 : Int32) = (6 : Int32) := Classical.not_not.mp h1040
                  refine r_run okX6_reckon 14 (cs := [vp_in (nI r.length) 32, vp_in (nI r.length) 32]) (σ' := (6, [some (.ref 87), some (.int f), some (.int (nI e)), some (.ref 76), some (.int ((nI r.length) + 1)), some (.int ((nI k) + 1)), some (.int 6), some (.int 1)], [], (SS b c), (upI (sQ 94 I g) 94 ((nI r.length).toNatClampNeg) (1 - (g ((nI r.length).toNatClampNeg)))), J, 0, 0)) rfl ⟨(vin (by omega) (by decide)), (vin (by omega) (by decide)), trivial⟩ ?_
                  simp only [cs1, hx]
                  show Rj _ _ _ _ _ _ (6, [some (.ref 87), some (.int f), some (.int (nI e)), some (.ref 76), some (.int ((nI r.length) + 1)), some (.int ((nI k) + 1)), some (.int 6), some (.int 1)], [], (SS b c), (upI (sQ 94 I g) 94 r.length (1 - x)), J, 0, 0)
                  rw [sQ_u, nI_eq1, nI_eq1]
                  refine r_weak (L' := [some (.ref 87), some (.int f), some (.int (nI e)), some (.ref 76), some (.int (nI (r.length + 1))), some (.int (nI (k + 1))), none, none]) ⟨rfl, rfl, rfl, rfl, rfl, rfl, trivial⟩ ?_
                  refine ih (k + 1) ((1 - x) :: r) (true :: r0) _ (by omega) (by rw [List.length_cons]; exact ht1) ⟨(fun _ => bz_not bx), hBr⟩ hc3 ⟨upd_t, StL_u (Nat.le_refl _) hLr⟩ hty1 ?_
                  refine Eq.trans (congrArg (evC h c0) ?_) hev
                  exact Eq.symm rfl
              · have h80 : (1 : Int32) = (0 : Int32) := Classical.not_not.mp h800
                exact absurd h80 (by decide)
            · have h58 : (6 : Int32) = (16 : Int32) := Classical.not_not.mp h580
              exact absurd h58 (by decide)
          · exact absurd (nI_lt (a := r.length) (b := 32) (by omega) (by decide)) h42
    · rcases e1 with e1 | e1 | e1
      · have e1 : o1 = 2 := e1
        subst e1
        subst e2
        have hc1 : I 88 k = 43 := hc1
        subst er
        obtain ⟨y, r1, rfl, by_, hB1⟩ := StB_c hB
        obtain ⟨x, r, rfl, bx, hBr⟩ := StB_c hB1
        obtain ⟨hy, hx, hLr⟩ := hL
        have hy : g (r.length + 1) = y := hy
        have hln := StB_len hBr
        rw [List.length_cons, List.length_cons] at ht
        rw [List.length_cons] at ht1
        have cs1 : (nI r.length).toNatClampNeg = r.length := nI_clamp (by omega)
        have cs2 : (nI (r.length + 1)).toNatClampNeg = r.length + 1 := nI_clamp (by omega)
        have esub : nI (r.length + 2) - 2 = nI r.length := by rw [show (2 : Int32) = nI 2 from rfl, pk_sub (by omega), Nat.add_sub_cancel]
        refine r_run okX6_reckon 2 (cs := []) (σ' := (9, [some (.ref 87), some (.int f), some (.int (nI e)), some (.ref 76), some (.int (nI (r.length + 2))), some (.int (nI k)), none, none], [.int (nI e), .int (nI k)], (SS b c), (sQ 94 I g), J, 0, 0)) rfl trivial ?_
        refine r_icmp okX6_reckon rfl (fun (h9 : (nI e) ≤ (nI k)) => ?_) (fun (h9 : ¬ (nI e) ≤ (nI k)) => ?_)
        · exact absurd h9 (nI_ge (by omega) (by omega))
        · refine r_run okX6_reckon 6 (cs := [vp_in (nI k) 800]) (σ' := (23, [some (.ref 87), some (.int f), some (.int (nI e)), some (.ref 76), some (.int (nI (r.length + 2))), some (.int (nI k)), some (.int (I 88 ((nI k).toNatClampNeg))), none], [.int (I 88 ((nI k).toNatClampNeg))], (SS b c), (sQ 94 I g), J, 0, 0)) rfl ⟨(vin (by omega) (by decide)), trivial⟩ ?_
          simp only [ck, hc1]
          show Rj _ _ _ _ _ _ (23, [some (.ref 87), some (.int f), some (.int (nI e)), some (.ref 76), some (.int (nI (r.length + 2))), some (.int (nI k)), some (.int 43), none], [.int 43], (SS b c), (sQ 94 I g), J, 0, 0)
          refine r_callS okX6_reckon okX6_operands [.int 43] [] rfl rfl rfl kkX6_operands rfl rfl (by decide) (by decide) ⟨Nat.le_refl _, Nat.le_refl _⟩ (Nat.le_of_ble_eq_true rfl) (o_ops43 γ) (fun v1 S1 I1 J1 hp => ?_)
          obtain ⟨rfl, rfl, rfl, rfl⟩ := hp
          show Rj _ _ _ _ _ _ (26, [some (.ref 87), some (.int f), some (.int (nI e)), some (.ref 76), some (.int (nI (r.length + 2))), some (.int (nI k)), some (.int 43), none], [.int 2], (SS b c), (sQ 94 I g), J, 0, 0)
          refine r_run okX6_reckon 3 (cs := []) (σ' := (32, [some (.ref 87), some (.int f), some (.int (nI e)), some (.ref 76), some (.int (nI (r.length + 2))), some (.int (nI k)), some (.int 43), some (.int 2)], [.int 2, .int (nI (r.length + 2))], (SS b c), (sQ 94 I g), J, 0, 0)) rfl trivial ?_
          refine r_icmp okX6_reckon rfl (fun (h32 : (nI (r.length + 2)) < (2 : Int32)) => ?_) (fun (h32 : ¬ (nI (r.length + 2)) < (2 : Int32)) => ?_)
          · exact absurd h32 (nI_nlt (a := r.length + 2) (b := 2) (by omega) (by omega))
          · refine r_run okX6_reckon 4 (cs := []) (σ' := (42, [some (.ref 87), some (.int f), some (.int (nI e)), some (.ref 76), some (.int (nI (r.length + 2))), some (.int (nI k)), some (.int 43), some (.int 2)], [.int 32, .int ((nI (r.length + 2)) - 2)], (SS b c), (sQ 94 I g), J, 0, 0)) rfl trivial ?_
            simp only [esub]
            show Rj _ _ _ _ _ _ (42, [some (.ref 87), some (.int f), some (.int (nI e)), some (.ref 76), some (.int (nI (r.length + 2))), some (.int (nI k)), some (.int 43), some (.int 2)], [.int 32, .int (nI r.length)], (SS b c), (sQ 94 I g), J, 0, 0)
            refine r_icmp okX6_reckon rfl (fun (h42 : (nI r.length) < (32 : Int32)) => ?_) (fun (h42 : ¬ (nI r.length) < (32 : Int32)) => ?_)
            · refine r_run okX6_reckon 6 (cs := []) (σ' := (58, [some (.ref 87), some (.int f), some (.int (nI e)), some (.ref 76), some (.int ((nI (r.length + 2)) - 2)), some (.int (nI k)), some (.int 43), some (.int 2)], [.int 16, .int 43], (SS b c), (sQ 94 I g), J, 0, 0)) rfl trivial ?_
              simp only [esub]
              show Rj _ _ _ _ _ _ (58, [some (.ref 87), some (.int f), some (.int (nI e)), some (.ref 76), some (.int (nI r.length)), some (.int (nI k)), some (.int 43), some (.int 2)], [.int 16, .int 43], (SS b c), (sQ 94 I g), J, 0, 0)
              refine r_icmp okX6_reckon rfl (fun (h58 : ¬ (43 : Int32) = (16 : Int32)) => ?_) (fun h580 => ?_)
              · refine r_run okX6_reckon 1 (cs := []) (σ' := (80, [some (.ref 87), some (.int f), some (.int (nI e)), some (.ref 76), some (.int (nI r.length)), some (.int (nI k)), some (.int 43), some (.int 2)], [.int 2], (SS b c), (sQ 94 I g), J, 0, 0)) rfl trivial ?_
                refine r_ifc okX6_reckon rfl (fun (h80 : ¬ (2 : Int32) = (0 : Int32)) => ?_) (fun h800 => ?_)
                · refine r_run okX6_reckon 2 (cs := []) (σ' := (104, [some (.ref 87), some (.int f), some (.int (nI e)), some (.ref 76), some (.int (nI r.length)), some (.int (nI k)), some (.int 43), some (.int 2)], [.int 6, .int 43], (SS b c), (sQ 94 I g), J, 0, 0)) rfl trivial ?_
                  refine r_icmp okX6_reckon rfl (fun (h104 : ¬ (43 : Int32) = (6 : Int32)) => ?_) (fun h1040 => ?_)
                  · refine r_run okX6_reckon 2 (cs := []) (σ' := (130, [some (.ref 87), some (.int f), some (.int (nI e)), some (.ref 76), some (.int (nI r.length)), some (.int (nI k)), some (.int 43), some (.int 2)], [.int 47, .int 43], (SS b c), (sQ 94 I g), J, 0, 0)) rfl trivial ?_
                    refine r_icmp okX6_reckon rfl (fun (h130 : ¬ (43 : Int32) = (47 : Int32)) => ?_) (fun h1300 => ?_)
                    · refine r_run okX6_reckon 14 (cs := [vp_in (nI r.length) 32, vp_in ((nI r.length) + 1) 32]) (σ' := (196, [some (.ref 87), some (.int f), some (.int (nI e)), some (.ref 76), some (.int (nI r.length)), some (.int (nI k)), some (.int 43), some (.int 2)], [.int (g (((nI r.length) + 1).toNatClampNeg)), .int (g ((nI r.length).toNatClampNeg)), .int 43, .int (nI r.length), .ref 94], (SS b c), (sQ 94 I g), J, 0, 0)) rfl ⟨(vin (by omega) (by decide)), (by rw [nI_eq1]; exact vin (by omega) (by decide)), trivial⟩ ?_
                      simp only [cs1, nI_eq1, cs2, hy, hx]
                      show Rj _ _ _ _ _ _ (196, [some (.ref 87), some (.int f), some (.int (nI e)), some (.ref 76), some (.int (nI r.length)), some (.int (nI k)), some (.int 43), some (.int 2)], [.int y, .int x, .int 43, .int (nI r.length), .ref 94], (SS b c), (sQ 94 I g), J, 0, 0)
                      refine r_callS okX6_reckon okX6_join [.int 43, .int x, .int y] [.int (nI r.length), .ref 94] rfl rfl rfl kkX6_join rfl rfl (by decide) (by decide) ⟨Nat.le_refl _, Nat.le_refl _⟩ (Nat.le_of_ble_eq_true rfl) (o_join43 γ x y) (fun v1 S1 I1 J1 hp => ?_)
                      obtain ⟨rfl, rfl, rfl, rfl⟩ := hp
                      show Rj _ _ _ _ _ _ (199, [some (.ref 87), some (.int f), some (.int (nI e)), some (.ref 76), some (.int (nI r.length)), some (.int (nI k)), some (.int 43), some (.int 2)], [.int (x + y), .int (nI r.length), .ref 94], (SS b c), (sQ 94 I g), J, 0, 0)
                      refine r_run okX6_reckon 4 (cs := [vp_in (nI r.length) 32]) (σ' := (6, [some (.ref 87), some (.int f), some (.int (nI e)), some (.ref 76), some (.int ((nI r.length) + 1)), some (.int ((nI k) + 1)), some (.int 43), some (.int 2)], [], (SS b c), (upI (sQ 94 I g) 94 ((nI r.length).toNatClampNeg) (x + y)), J, 0, 0)) rfl ⟨(vin (by omega) (by decide)), trivial⟩ ?_
                      simp only [cs1, nI_eq1]
                      show Rj _ _ _ _ _ _ (6, [some (.ref 87), some (.int f), some (.int (nI e)), some (.ref 76), some (.int (nI (r.length + 1))), some (.int (nI (k + 1))), some (.int 43), some (.int 2)], [], (SS b c), (upI (sQ 94 I g) 94 r.length (x + y)), J, 0, 0)
                      rw [sQ_u]
                      refine r_weak (L' := [some (.ref 87), some (.int f), some (.int (nI e)), some (.ref 76), some (.int (nI (r.length + 1))), some (.int (nI (k + 1))), none, none]) ⟨rfl, rfl, rfl, rfl, rfl, rfl, trivial⟩ ?_
                      refine ih (k + 1) ((x + y) :: r) (false :: r0) _ (by omega) (by rw [List.length_cons]; exact ht1) ⟨(fun q => by cases q), hBr⟩ hc3 ⟨upd_t, StL_u (Nat.le_refl _) hLr⟩ hty1 ?_
                      refine Eq.trans (congrArg (evC h c0) ?_) hev
                      exact Eq.symm rfl
                    · have h130 : (43 : Int32) = (47 : Int32) := Classical.not_not.mp h1300
                      exact absurd h130 (by decide)
                  · have h104 : (43 : Int32) = (6 : Int32) := Classical.not_not.mp h1040
                    exact absurd h104 (by decide)
                · have h80 : (2 : Int32) = (0 : Int32) := Classical.not_not.mp h800
                  exact absurd h80 (by decide)
              · have h58 : (43 : Int32) = (16 : Int32) := Classical.not_not.mp h580
                exact absurd h58 (by decide)
            · exact absurd (nI_lt (a := r.length) (b := 32) (by omega) (by decide)) h42
      · have e1 : o1 = 3 := e1
        subst e1
        subst e2
        have hc1 : I 88 k = 45 := hc1
        subst er
        obtain ⟨y, r1, rfl, by_, hB1⟩ := StB_c hB
        obtain ⟨x, r, rfl, bx, hBr⟩ := StB_c hB1
        obtain ⟨hy, hx, hLr⟩ := hL
        have hy : g (r.length + 1) = y := hy
        have hln := StB_len hBr
        rw [List.length_cons, List.length_cons] at ht
        rw [List.length_cons] at ht1
        have cs1 : (nI r.length).toNatClampNeg = r.length := nI_clamp (by omega)
        have cs2 : (nI (r.length + 1)).toNatClampNeg = r.length + 1 := nI_clamp (by omega)
        have esub : nI (r.length + 2) - 2 = nI r.length := by rw [show (2 : Int32) = nI 2 from rfl, pk_sub (by omega), Nat.add_sub_cancel]
        refine r_run okX6_reckon 2 (cs := []) (σ' := (9, [some (.ref 87), some (.int f), some (.int (nI e)), some (.ref 76), some (.int (nI (r.length + 2))), some (.int (nI k)), none, none], [.int (nI e), .int (nI k)], (SS b c), (sQ 94 I g), J, 0, 0)) rfl trivial ?_
        refine r_icmp okX6_reckon rfl (fun (h9 : (nI e) ≤ (nI k)) => ?_) (fun (h9 : ¬ (nI e) ≤ (nI k)) => ?_)
        · exact absurd h9 (nI_ge (by omega) (by omega))
        · refine r_run okX6_reckon 6 (cs := [vp_in (nI k) 800]) (σ' := (23, [some (.ref 87), some (.int f), some (.int (nI e)), some (.ref 76), some (.int (nI (r.length + 2))), some (.int (nI k)), some (.int (I 88 ((nI k).toNatClampNeg))), none], [.int (I 88 ((nI k).toNatClampNeg))], (SS b c), (sQ 94 I g), J, 0, 0)) rfl ⟨(vin (by omega) (by decide)), trivial⟩ ?_
          simp only [ck, hc1]
          show Rj _ _ _ _ _ _ (23, [some (.ref 87), some (.int f), some (.int (nI e)), some (.ref 76), some (.int (nI (r.length + 2))), some (.int (nI k)), some (.int 45), none], [.int 45], (SS b c), (sQ 94 I g), J, 0, 0)
          refine r_callS okX6_reckon okX6_operands [.int 45] [] rfl rfl rfl kkX6_operands rfl rfl (by decide) (by decide) ⟨Nat.le_refl _, Nat.le_refl _⟩ (Nat.le_of_ble_eq_true rfl) (o_ops45 γ) (fun v1 S1 I1 J1 hp => ?_)
          obtain ⟨rfl, rfl, rfl, rfl⟩ := hp
          show Rj _ _ _ _ _ _ (26, [some (.ref 87), some (.int f), some (.int (nI e)), some (.ref 76), some (.int (nI (r.length + 2))), some (.int (nI k)), some (.int 45), none], [.int 2], (SS b c), (sQ 94 I g), J, 0, 0)
          refine r_run okX6_reckon 3 (cs := []) (σ' := (32, [some (.ref 87), some (.int f), some (.int (nI e)), some (.ref 76), some (.int (nI (r.length + 2))), some (.int (nI k)), some (.int 45), some (.int 2)], [.int 2, .int (nI (r.length + 2))], (SS b c), (sQ 94 I g), J, 0, 0)) rfl trivial ?_
          refine r_icmp okX6_reckon rfl (fun (h32 : (nI (r.length + 2)) < (2 : Int32)) => ?_) (fun (h32 : ¬ (nI (r.length + 2)) < (2 : Int32)) => ?_)
          · exact absurd h32 (nI_nlt (a := r.length + 2) (b := 2) (by omega) (by omega))
          · refine r_run okX6_reckon 4 (cs := []) (σ' := (42, [some (.ref 87), some (.int f), some (.int (nI e)), some (.ref 76), some (.int (nI (r.length + 2))), some (.int (nI k)), some (.int 45), some (.int 2)], [.int 32, .int ((nI (r.length + 2)) - 2)], (SS b c), (sQ 94 I g), J, 0, 0)) rfl trivial ?_
            simp only [esub]
            show Rj _ _ _ _ _ _ (42, [some (.ref 87), some (.int f), some (.int (nI e)), some (.ref 76), some (.int (nI (r.length + 2))), some (.int (nI k)), some (.int 45), some (.int 2)], [.int 32, .int (nI r.length)], (SS b c), (sQ 94 I g), J, 0, 0)
            refine r_icmp okX6_reckon rfl (fun (h42 : (nI r.length) < (32 : Int32)) => ?_) (fun (h42 : ¬ (nI r.length) < (32 : Int32)) => ?_)
            · refine r_run okX6_reckon 6 (cs := []) (σ' := (58, [some (.ref 87), some (.int f), some (.int (nI e)), some (.ref 76), some (.int ((nI (r.length + 2)) - 2)), some (.int (nI k)), some (.int 45), some (.int 2)], [.int 16, .int 45], (SS b c), (sQ 94 I g), J, 0, 0)) rfl trivial ?_
              simp only [esub]
              show Rj _ _ _ _ _ _ (58, [some (.ref 87), some (.int f), some (.int (nI e)), some (.ref 76), some (.int (nI r.length)), some (.int (nI k)), some (.int 45), some (.int 2)], [.int 16, .int 45], (SS b c), (sQ 94 I g), J, 0, 0)
              refine r_icmp okX6_reckon rfl (fun (h58 : ¬ (45 : Int32) = (16 : Int32)) => ?_) (fun h580 => ?_)
              · refine r_run okX6_reckon 1 (cs := []) (σ' := (80, [some (.ref 87), some (.int f), some (.int (nI e)), some (.ref 76), some (.int (nI r.length)), some (.int (nI k)), some (.int 45), some (.int 2)], [.int 2], (SS b c), (sQ 94 I g), J, 0, 0)) rfl trivial ?_
                refine r_ifc okX6_reckon rfl (fun (h80 : ¬ (2 : Int32) = (0 : Int32)) => ?_) (fun h800 => ?_)
                · refine r_run okX6_reckon 2 (cs := []) (σ' := (104, [some (.ref 87), some (.int f), some (.int (nI e)), some (.ref 76), some (.int (nI r.length)), some (.int (nI k)), some (.int 45), some (.int 2)], [.int 6, .int 45], (SS b c), (sQ 94 I g), J, 0, 0)) rfl trivial ?_
                  refine r_icmp okX6_reckon rfl (fun (h104 : ¬ (45 : Int32) = (6 : Int32)) => ?_) (fun h1040 => ?_)
                  · refine r_run okX6_reckon 2 (cs := []) (σ' := (130, [some (.ref 87), some (.int f), some (.int (nI e)), some (.ref 76), some (.int (nI r.length)), some (.int (nI k)), some (.int 45), some (.int 2)], [.int 47, .int 45], (SS b c), (sQ 94 I g), J, 0, 0)) rfl trivial ?_
                    refine r_icmp okX6_reckon rfl (fun (h130 : ¬ (45 : Int32) = (47 : Int32)) => ?_) (fun h1300 => ?_)
                    · refine r_run okX6_reckon 14 (cs := [vp_in (nI r.length) 32, vp_in ((nI r.length) + 1) 32]) (σ' := (196, [some (.ref 87), some (.int f), some (.int (nI e)), some (.ref 76), some (.int (nI r.length)), some (.int (nI k)), some (.int 45), some (.int 2)], [.int (g (((nI r.length) + 1).toNatClampNeg)), .int (g ((nI r.length).toNatClampNeg)), .int 45, .int (nI r.length), .ref 94], (SS b c), (sQ 94 I g), J, 0, 0)) rfl ⟨(vin (by omega) (by decide)), (by rw [nI_eq1]; exact vin (by omega) (by decide)), trivial⟩ ?_
                      simp only [cs1, nI_eq1, cs2, hy, hx]
                      show Rj _ _ _ _ _ _ (196, [some (.ref 87), some (.int f), some (.int (nI e)), some (.ref 76), some (.int (nI r.length)), some (.int (nI k)), some (.int 45), some (.int 2)], [.int y, .int x, .int 45, .int (nI r.length), .ref 94], (SS b c), (sQ 94 I g), J, 0, 0)
                      refine r_callS okX6_reckon okX6_join [.int 45, .int x, .int y] [.int (nI r.length), .ref 94] rfl rfl rfl kkX6_join rfl rfl (by decide) (by decide) ⟨Nat.le_refl _, Nat.le_refl _⟩ (Nat.le_of_ble_eq_true rfl) (o_join45 γ x y) (fun v1 S1 I1 J1 hp => ?_)
                      obtain ⟨rfl, rfl, rfl, rfl⟩ := hp
                      show Rj _ _ _ _ _ _ (199, [some (.ref 87), some (.int f), some (.int (nI e)), some (.ref 76), some (.int (nI r.length)), some (.int (nI k)), some (.int 45), some (.int 2)], [.int (x - y), .int (nI r.length), .ref 94], (SS b c), (sQ 94 I g), J, 0, 0)
                      refine r_run okX6_reckon 4 (cs := [vp_in (nI r.length) 32]) (σ' := (6, [some (.ref 87), some (.int f), some (.int (nI e)), some (.ref 76), some (.int ((nI r.length) + 1)), some (.int ((nI k) + 1)), some (.int 45), some (.int 2)], [], (SS b c), (upI (sQ 94 I g) 94 ((nI r.length).toNatClampNeg) (x - y)), J, 0, 0)) rfl ⟨(vin (by omega) (by decide)), trivial⟩ ?_
                      simp only [cs1, nI_eq1]
                      show Rj _ _ _ _ _ _ (6, [some (.ref 87), some (.int f), some (.int (nI e)), some (.ref 76), some (.int (nI (r.length + 1))), some (.int (nI (k + 1))), some (.int 45), some (.int 2)], [], (SS b c), (upI (sQ 94 I g) 94 r.length (x - y)), J, 0, 0)
                      rw [sQ_u]
                      refine r_weak (L' := [some (.ref 87), some (.int f), some (.int (nI e)), some (.ref 76), some (.int (nI (r.length + 1))), some (.int (nI (k + 1))), none, none]) ⟨rfl, rfl, rfl, rfl, rfl, rfl, trivial⟩ ?_
                      refine ih (k + 1) ((x - y) :: r) (false :: r0) _ (by omega) (by rw [List.length_cons]; exact ht1) ⟨(fun q => by cases q), hBr⟩ hc3 ⟨upd_t, StL_u (Nat.le_refl _) hLr⟩ hty1 ?_
                      refine Eq.trans (congrArg (evC h c0) ?_) hev
                      exact Eq.symm rfl
                    · have h130 : (45 : Int32) = (47 : Int32) := Classical.not_not.mp h1300
                      exact absurd h130 (by decide)
                  · have h104 : (45 : Int32) = (6 : Int32) := Classical.not_not.mp h1040
                    exact absurd h104 (by decide)
                · have h80 : (2 : Int32) = (0 : Int32) := Classical.not_not.mp h800
                  exact absurd h80 (by decide)
              · have h58 : (45 : Int32) = (16 : Int32) := Classical.not_not.mp h580
                exact absurd h58 (by decide)
            · exact absurd (nI_lt (a := r.length) (b := 32) (by omega) (by decide)) h42
      · have e1 : o1 = 4 := e1
        subst e1
        subst e2
        have hc1 : I 88 k = 42 := hc1
        subst er
        obtain ⟨y, r1, rfl, by_, hB1⟩ := StB_c hB
        obtain ⟨x, r, rfl, bx, hBr⟩ := StB_c hB1
        obtain ⟨hy, hx, hLr⟩ := hL
        have hy : g (r.length + 1) = y := hy
        have hln := StB_len hBr
        rw [List.length_cons, List.length_cons] at ht
        rw [List.length_cons] at ht1
        have cs1 : (nI r.length).toNatClampNeg = r.length := nI_clamp (by omega)
        have cs2 : (nI (r.length + 1)).toNatClampNeg = r.length + 1 := nI_clamp (by omega)
        have esub : nI (r.length + 2) - 2 = nI r.length := by rw [show (2 : Int32) = nI 2 from rfl, pk_sub (by omega), Nat.add_sub_cancel]
        refine r_run okX6_reckon 2 (cs := []) (σ' := (9, [some (.ref 87), some (.int f), some (.int (nI e)), some (.ref 76), some (.int (nI (r.length + 2))), some (.int (nI k)), none, none], [.int (nI e), .int (nI k)], (SS b c), (sQ 94 I g), J, 0, 0)) rfl trivial ?_
        refine r_icmp okX6_reckon rfl (fun (h9 : (nI e) ≤ (nI k)) => ?_) (fun (h9 : ¬ (nI e) ≤ (nI k)) => ?_)
        · exact absurd h9 (nI_ge (by omega) (by omega))
        · refine r_run okX6_reckon 6 (cs := [vp_in (nI k) 800]) (σ' := (23, [some (.ref 87), some (.int f), some (.int (nI e)), some (.ref 76), some (.int (nI (r.length + 2))), some (.int (nI k)), some (.int (I 88 ((nI k).toNatClampNeg))), none], [.int (I 88 ((nI k).toNatClampNeg))], (SS b c), (sQ 94 I g), J, 0, 0)) rfl ⟨(vin (by omega) (by decide)), trivial⟩ ?_
          simp only [ck, hc1]
          show Rj _ _ _ _ _ _ (23, [some (.ref 87), some (.int f), some (.int (nI e)), some (.ref 76), some (.int (nI (r.length + 2))), some (.int (nI k)), some (.int 42), none], [.int 42], (SS b c), (sQ 94 I g), J, 0, 0)
          refine r_callS okX6_reckon okX6_operands [.int 42] [] rfl rfl rfl kkX6_operands rfl rfl (by decide) (by decide) ⟨Nat.le_refl _, Nat.le_refl _⟩ (Nat.le_of_ble_eq_true rfl) (o_ops42 γ) (fun v1 S1 I1 J1 hp => ?_)
          obtain ⟨rfl, rfl, rfl, rfl⟩ := hp
          show Rj _ _ _ _ _ _ (26, [some (.ref 87), some (.int f), some (.int (nI e)), some (.ref 76), some (.int (nI (r.length + 2))), some (.int (nI k)), some (.int 42), none], [.int 2], (SS b c), (sQ 94 I g), J, 0, 0)
          refine r_run okX6_reckon 3 (cs := []) (σ' := (32, [some (.ref 87), some (.int f), some (.int (nI e)), some (.ref 76), some (.int (nI (r.length + 2))), some (.int (nI k)), some (.int 42), some (.int 2)], [.int 2, .int (nI (r.length + 2))], (SS b c), (sQ 94 I g), J, 0, 0)) rfl trivial ?_
          refine r_icmp okX6_reckon rfl (fun (h32 : (nI (r.length + 2)) < (2 : Int32)) => ?_) (fun (h32 : ¬ (nI (r.length + 2)) < (2 : Int32)) => ?_)
          · exact absurd h32 (nI_nlt (a := r.length + 2) (b := 2) (by omega) (by omega))
          · refine r_run okX6_reckon 4 (cs := []) (σ' := (42, [some (.ref 87), some (.int f), some (.int (nI e)), some (.ref 76), some (.int (nI (r.length + 2))), some (.int (nI k)), some (.int 42), some (.int 2)], [.int 32, .int ((nI (r.length + 2)) - 2)], (SS b c), (sQ 94 I g), J, 0, 0)) rfl trivial ?_
            simp only [esub]
            show Rj _ _ _ _ _ _ (42, [some (.ref 87), some (.int f), some (.int (nI e)), some (.ref 76), some (.int (nI (r.length + 2))), some (.int (nI k)), some (.int 42), some (.int 2)], [.int 32, .int (nI r.length)], (SS b c), (sQ 94 I g), J, 0, 0)
            refine r_icmp okX6_reckon rfl (fun (h42 : (nI r.length) < (32 : Int32)) => ?_) (fun (h42 : ¬ (nI r.length) < (32 : Int32)) => ?_)
            · refine r_run okX6_reckon 6 (cs := []) (σ' := (58, [some (.ref 87), some (.int f), some (.int (nI e)), some (.ref 76), some (.int ((nI (r.length + 2)) - 2)), some (.int (nI k)), some (.int 42), some (.int 2)], [.int 16, .int 42], (SS b c), (sQ 94 I g), J, 0, 0)) rfl trivial ?_
              simp only [esub]
              show Rj _ _ _ _ _ _ (58, [some (.ref 87), some (.int f), some (.int (nI e)), some (.ref 76), some (.int (nI r.length)), some (.int (nI k)), some (.int 42), some (.int 2)], [.int 16, .int 42], (SS b c), (sQ 94 I g), J, 0, 0)
              refine r_icmp okX6_reckon rfl (fun (h58 : ¬ (42 : Int32) = (16 : Int32)) => ?_) (fun h580 => ?_)
              · refine r_run okX6_reckon 1 (cs := []) (σ' := (80, [some (.ref 87), some (.int f), some (.int (nI e)), some (.ref 76), some (.int (nI r.length)), some (.int (nI k)), some (.int 42), some (.int 2)], [.int 2], (SS b c), (sQ 94 I g), J, 0, 0)) rfl trivial ?_
                refine r_ifc okX6_reckon rfl (fun (h80 : ¬ (2 : Int32) = (0 : Int32)) => ?_) (fun h800 => ?_)
                · refine r_run okX6_reckon 2 (cs := []) (σ' := (104, [some (.ref 87), some (.int f), some (.int (nI e)), some (.ref 76), some (.int (nI r.length)), some (.int (nI k)), some (.int 42), some (.int 2)], [.int 6, .int 42], (SS b c), (sQ 94 I g), J, 0, 0)) rfl trivial ?_
                  refine r_icmp okX6_reckon rfl (fun (h104 : ¬ (42 : Int32) = (6 : Int32)) => ?_) (fun h1040 => ?_)
                  · refine r_run okX6_reckon 2 (cs := []) (σ' := (130, [some (.ref 87), some (.int f), some (.int (nI e)), some (.ref 76), some (.int (nI r.length)), some (.int (nI k)), some (.int 42), some (.int 2)], [.int 47, .int 42], (SS b c), (sQ 94 I g), J, 0, 0)) rfl trivial ?_
                    refine r_icmp okX6_reckon rfl (fun (h130 : ¬ (42 : Int32) = (47 : Int32)) => ?_) (fun h1300 => ?_)
                    · refine r_run okX6_reckon 14 (cs := [vp_in (nI r.length) 32, vp_in ((nI r.length) + 1) 32]) (σ' := (196, [some (.ref 87), some (.int f), some (.int (nI e)), some (.ref 76), some (.int (nI r.length)), some (.int (nI k)), some (.int 42), some (.int 2)], [.int (g (((nI r.length) + 1).toNatClampNeg)), .int (g ((nI r.length).toNatClampNeg)), .int 42, .int (nI r.length), .ref 94], (SS b c), (sQ 94 I g), J, 0, 0)) rfl ⟨(vin (by omega) (by decide)), (by rw [nI_eq1]; exact vin (by omega) (by decide)), trivial⟩ ?_
                      simp only [cs1, nI_eq1, cs2, hy, hx]
                      show Rj _ _ _ _ _ _ (196, [some (.ref 87), some (.int f), some (.int (nI e)), some (.ref 76), some (.int (nI r.length)), some (.int (nI k)), some (.int 42), some (.int 2)], [.int y, .int x, .int 42, .int (nI r.length), .ref 94], (SS b c), (sQ 94 I g), J, 0, 0)
                      refine r_callS okX6_reckon okX6_join [.int 42, .int x, .int y] [.int (nI r.length), .ref 94] rfl rfl rfl kkX6_join rfl rfl (by decide) (by decide) ⟨Nat.le_refl _, Nat.le_refl _⟩ (Nat.le_of_ble_eq_true rfl) (o_join42 γ x y) (fun v1 S1 I1 J1 hp => ?_)
                      obtain ⟨rfl, rfl, rfl, rfl⟩ := hp
                      show Rj _ _ _ _ _ _ (199, [some (.ref 87), some (.int f), some (.int (nI e)), some (.ref 76), some (.int (nI r.length)), some (.int (nI k)), some (.int 42), some (.int 2)], [.int (x * y), .int (nI r.length), .ref 94], (SS b c), (sQ 94 I g), J, 0, 0)
                      refine r_run okX6_reckon 4 (cs := [vp_in (nI r.length) 32]) (σ' := (6, [some (.ref 87), some (.int f), some (.int (nI e)), some (.ref 76), some (.int ((nI r.length) + 1)), some (.int ((nI k) + 1)), some (.int 42), some (.int 2)], [], (SS b c), (upI (sQ 94 I g) 94 ((nI r.length).toNatClampNeg) (x * y)), J, 0, 0)) rfl ⟨(vin (by omega) (by decide)), trivial⟩ ?_
                      simp only [cs1, nI_eq1]
                      show Rj _ _ _ _ _ _ (6, [some (.ref 87), some (.int f), some (.int (nI e)), some (.ref 76), some (.int (nI (r.length + 1))), some (.int (nI (k + 1))), some (.int 42), some (.int 2)], [], (SS b c), (upI (sQ 94 I g) 94 r.length (x * y)), J, 0, 0)
                      rw [sQ_u]
                      refine r_weak (L' := [some (.ref 87), some (.int f), some (.int (nI e)), some (.ref 76), some (.int (nI (r.length + 1))), some (.int (nI (k + 1))), none, none]) ⟨rfl, rfl, rfl, rfl, rfl, rfl, trivial⟩ ?_
                      refine ih (k + 1) ((x * y) :: r) (false :: r0) _ (by omega) (by rw [List.length_cons]; exact ht1) ⟨(fun q => by cases q), hBr⟩ hc3 ⟨upd_t, StL_u (Nat.le_refl _) hLr⟩ hty1 ?_
                      refine Eq.trans (congrArg (evC h c0) ?_) hev
                      exact Eq.symm rfl
                    · have h130 : (42 : Int32) = (47 : Int32) := Classical.not_not.mp h1300
                      exact absurd h130 (by decide)
                  · have h104 : (42 : Int32) = (6 : Int32) := Classical.not_not.mp h1040
                    exact absurd h104 (by decide)
                · have h80 : (2 : Int32) = (0 : Int32) := Classical.not_not.mp h800
                  exact absurd h80 (by decide)
              · have h58 : (42 : Int32) = (16 : Int32) := Classical.not_not.mp h580
                exact absurd h58 (by decide)
            · exact absurd (nI_lt (a := r.length) (b := 32) (by omega) (by decide)) h42
    · rcases e1 with e1 | e1 | e1
      · have e1 : o1 = 6 := e1
        subst e1
        subst e2
        have hc1 : I 88 k = 60 := hc1
        subst er
        obtain ⟨y, r1, rfl, by_, hB1⟩ := StB_c hB
        obtain ⟨x, r, rfl, bx, hBr⟩ := StB_c hB1
        obtain ⟨hy, hx, hLr⟩ := hL
        have hy : g (r.length + 1) = y := hy
        have hln := StB_len hBr
        rw [List.length_cons, List.length_cons] at ht
        rw [List.length_cons] at ht1
        have cs1 : (nI r.length).toNatClampNeg = r.length := nI_clamp (by omega)
        have cs2 : (nI (r.length + 1)).toNatClampNeg = r.length + 1 := nI_clamp (by omega)
        have esub : nI (r.length + 2) - 2 = nI r.length := by rw [show (2 : Int32) = nI 2 from rfl, pk_sub (by omega), Nat.add_sub_cancel]
        refine r_run okX6_reckon 2 (cs := []) (σ' := (9, [some (.ref 87), some (.int f), some (.int (nI e)), some (.ref 76), some (.int (nI (r.length + 2))), some (.int (nI k)), none, none], [.int (nI e), .int (nI k)], (SS b c), (sQ 94 I g), J, 0, 0)) rfl trivial ?_
        refine r_icmp okX6_reckon rfl (fun (h9 : (nI e) ≤ (nI k)) => ?_) (fun (h9 : ¬ (nI e) ≤ (nI k)) => ?_)
        · exact absurd h9 (nI_ge (by omega) (by omega))
        · refine r_run okX6_reckon 6 (cs := [vp_in (nI k) 800]) (σ' := (23, [some (.ref 87), some (.int f), some (.int (nI e)), some (.ref 76), some (.int (nI (r.length + 2))), some (.int (nI k)), some (.int (I 88 ((nI k).toNatClampNeg))), none], [.int (I 88 ((nI k).toNatClampNeg))], (SS b c), (sQ 94 I g), J, 0, 0)) rfl ⟨(vin (by omega) (by decide)), trivial⟩ ?_
          simp only [ck, hc1]
          show Rj _ _ _ _ _ _ (23, [some (.ref 87), some (.int f), some (.int (nI e)), some (.ref 76), some (.int (nI (r.length + 2))), some (.int (nI k)), some (.int 60), none], [.int 60], (SS b c), (sQ 94 I g), J, 0, 0)
          refine r_callS okX6_reckon okX6_operands [.int 60] [] rfl rfl rfl kkX6_operands rfl rfl (by decide) (by decide) ⟨Nat.le_refl _, Nat.le_refl _⟩ (Nat.le_of_ble_eq_true rfl) (o_ops60 γ) (fun v1 S1 I1 J1 hp => ?_)
          obtain ⟨rfl, rfl, rfl, rfl⟩ := hp
          show Rj _ _ _ _ _ _ (26, [some (.ref 87), some (.int f), some (.int (nI e)), some (.ref 76), some (.int (nI (r.length + 2))), some (.int (nI k)), some (.int 60), none], [.int 2], (SS b c), (sQ 94 I g), J, 0, 0)
          refine r_run okX6_reckon 3 (cs := []) (σ' := (32, [some (.ref 87), some (.int f), some (.int (nI e)), some (.ref 76), some (.int (nI (r.length + 2))), some (.int (nI k)), some (.int 60), some (.int 2)], [.int 2, .int (nI (r.length + 2))], (SS b c), (sQ 94 I g), J, 0, 0)) rfl trivial ?_
          refine r_icmp okX6_reckon rfl (fun (h32 : (nI (r.length + 2)) < (2 : Int32)) => ?_) (fun (h32 : ¬ (nI (r.length + 2)) < (2 : Int32)) => ?_)
          · exact absurd h32 (nI_nlt (a := r.length + 2) (b := 2) (by omega) (by omega))
          · refine r_run okX6_reckon 4 (cs := []) (σ' := (42, [some (.ref 87), some (.int f), some (.int (nI e)), some (.ref 76), some (.int (nI (r.length + 2))), some (.int (nI k)), some (.int 60), some (.int 2)], [.int 32, .int ((nI (r.length + 2)) - 2)], (SS b c), (sQ 94 I g), J, 0, 0)) rfl trivial ?_
            simp only [esub]
            show Rj _ _ _ _ _ _ (42, [some (.ref 87), some (.int f), some (.int (nI e)), some (.ref 76), some (.int (nI (r.length + 2))), some (.int (nI k)), some (.int 60), some (.int 2)], [.int 32, .int (nI r.length)], (SS b c), (sQ 94 I g), J, 0, 0)
            refine r_icmp okX6_reckon rfl (fun (h42 : (nI r.length) < (32 : Int32)) => ?_) (fun (h42 : ¬ (nI r.length) < (32 : Int32)) => ?_)
            · refine r_run okX6_reckon 6 (cs := []) (σ' := (58, [some (.ref 87), some (.int f), some (.int (nI e)), some (.ref 76), some (.int ((nI (r.length + 2)) - 2)), some (.int (nI k)), some (.int 60), some (.int 2)], [.int 16, .int 60], (SS b c), (sQ 94 I g), J, 0, 0)) rfl trivial ?_
              simp only [esub]
              show Rj _ _ _ _ _ _ (58, [some (.ref 87), some (.int f), some (.int (nI e)), some (.ref 76), some (.int (nI r.length)), some (.int (nI k)), some (.int 60), some (.int 2)], [.int 16, .int 60], (SS b c), (sQ 94 I g), J, 0, 0)
              refine r_icmp okX6_reckon rfl (fun (h58 : ¬ (60 : Int32) = (16 : Int32)) => ?_) (fun h580 => ?_)
              · refine r_run okX6_reckon 1 (cs := []) (σ' := (80, [some (.ref 87), some (.int f), some (.int (nI e)), some (.ref 76), some (.int (nI r.length)), some (.int (nI k)), some (.int 60), some (.int 2)], [.int 2], (SS b c), (sQ 94 I g), J, 0, 0)) rfl trivial ?_
                refine r_ifc okX6_reckon rfl (fun (h80 : ¬ (2 : Int32) = (0 : Int32)) => ?_) (fun h800 => ?_)
                · refine r_run okX6_reckon 2 (cs := []) (σ' := (104, [some (.ref 87), some (.int f), some (.int (nI e)), some (.ref 76), some (.int (nI r.length)), some (.int (nI k)), some (.int 60), some (.int 2)], [.int 6, .int 60], (SS b c), (sQ 94 I g), J, 0, 0)) rfl trivial ?_
                  refine r_icmp okX6_reckon rfl (fun (h104 : ¬ (60 : Int32) = (6 : Int32)) => ?_) (fun h1040 => ?_)
                  · refine r_run okX6_reckon 2 (cs := []) (σ' := (130, [some (.ref 87), some (.int f), some (.int (nI e)), some (.ref 76), some (.int (nI r.length)), some (.int (nI k)), some (.int 60), some (.int 2)], [.int 47, .int 60], (SS b c), (sQ 94 I g), J, 0, 0)) rfl trivial ?_
                    refine r_icmp okX6_reckon rfl (fun (h130 : ¬ (60 : Int32) = (47 : Int32)) => ?_) (fun h1300 => ?_)
                    · refine r_run okX6_reckon 14 (cs := [vp_in (nI r.length) 32, vp_in ((nI r.length) + 1) 32]) (σ' := (196, [some (.ref 87), some (.int f), some (.int (nI e)), some (.ref 76), some (.int (nI r.length)), some (.int (nI k)), some (.int 60), some (.int 2)], [.int (g (((nI r.length) + 1).toNatClampNeg)), .int (g ((nI r.length).toNatClampNeg)), .int 60, .int (nI r.length), .ref 94], (SS b c), (sQ 94 I g), J, 0, 0)) rfl ⟨(vin (by omega) (by decide)), (by rw [nI_eq1]; exact vin (by omega) (by decide)), trivial⟩ ?_
                      simp only [cs1, nI_eq1, cs2, hy, hx]
                      show Rj _ _ _ _ _ _ (196, [some (.ref 87), some (.int f), some (.int (nI e)), some (.ref 76), some (.int (nI r.length)), some (.int (nI k)), some (.int 60), some (.int 2)], [.int y, .int x, .int 60, .int (nI r.length), .ref 94], (SS b c), (sQ 94 I g), J, 0, 0)
                      refine r_callS okX6_reckon okX6_join [.int 60, .int x, .int y] [.int (nI r.length), .ref 94] rfl rfl rfl kkX6_join rfl rfl (by decide) (by decide) ⟨Nat.le_refl _, Nat.le_refl _⟩ (Nat.le_of_ble_eq_true rfl) (o_join60 γ x y) (fun v1 S1 I1 J1 hp => ?_)
                      obtain ⟨rfl, rfl, rfl, rfl⟩ := hp
                      show Rj _ _ _ _ _ _ (199, [some (.ref 87), some (.int f), some (.int (nI e)), some (.ref 76), some (.int (nI r.length)), some (.int (nI k)), some (.int 60), some (.int 2)], [.int (if x < y then 1 else 0), .int (nI r.length), .ref 94], (SS b c), (sQ 94 I g), J, 0, 0)
                      refine r_run okX6_reckon 4 (cs := [vp_in (nI r.length) 32]) (σ' := (6, [some (.ref 87), some (.int f), some (.int (nI e)), some (.ref 76), some (.int ((nI r.length) + 1)), some (.int ((nI k) + 1)), some (.int 60), some (.int 2)], [], (SS b c), (upI (sQ 94 I g) 94 ((nI r.length).toNatClampNeg) (if x < y then 1 else 0)), J, 0, 0)) rfl ⟨(vin (by omega) (by decide)), trivial⟩ ?_
                      simp only [cs1, nI_eq1]
                      show Rj _ _ _ _ _ _ (6, [some (.ref 87), some (.int f), some (.int (nI e)), some (.ref 76), some (.int (nI (r.length + 1))), some (.int (nI (k + 1))), some (.int 60), some (.int 2)], [], (SS b c), (upI (sQ 94 I g) 94 r.length (if x < y then 1 else 0)), J, 0, 0)
                      rw [sQ_u]
                      refine r_weak (L' := [some (.ref 87), some (.int f), some (.int (nI e)), some (.ref 76), some (.int (nI (r.length + 1))), some (.int (nI (k + 1))), none, none]) ⟨rfl, rfl, rfl, rfl, rfl, rfl, trivial⟩ ?_
                      refine ih (k + 1) ((if x < y then 1 else 0) :: r) (true :: r0) _ (by omega) (by rw [List.length_cons]; exact ht1) ⟨(fun _ => bz_if), hBr⟩ hc3 ⟨upd_t, StL_u (Nat.le_refl _) hLr⟩ hty1 ?_
                      refine Eq.trans (congrArg (evC h c0) ?_) hev
                      exact Eq.symm rfl
                    · have h130 : (60 : Int32) = (47 : Int32) := Classical.not_not.mp h1300
                      exact absurd h130 (by decide)
                  · have h104 : (60 : Int32) = (6 : Int32) := Classical.not_not.mp h1040
                    exact absurd h104 (by decide)
                · have h80 : (2 : Int32) = (0 : Int32) := Classical.not_not.mp h800
                  exact absurd h80 (by decide)
              · have h58 : (60 : Int32) = (16 : Int32) := Classical.not_not.mp h580
                exact absurd h58 (by decide)
            · exact absurd (nI_lt (a := r.length) (b := 32) (by omega) (by decide)) h42
      · have e1 : o1 = 7 := e1
        subst e1
        subst e2
        have hc1 : I 88 k = 61 := hc1
        subst er
        obtain ⟨y, r1, rfl, by_, hB1⟩ := StB_c hB
        obtain ⟨x, r, rfl, bx, hBr⟩ := StB_c hB1
        obtain ⟨hy, hx, hLr⟩ := hL
        have hy : g (r.length + 1) = y := hy
        have hln := StB_len hBr
        rw [List.length_cons, List.length_cons] at ht
        rw [List.length_cons] at ht1
        have cs1 : (nI r.length).toNatClampNeg = r.length := nI_clamp (by omega)
        have cs2 : (nI (r.length + 1)).toNatClampNeg = r.length + 1 := nI_clamp (by omega)
        have esub : nI (r.length + 2) - 2 = nI r.length := by rw [show (2 : Int32) = nI 2 from rfl, pk_sub (by omega), Nat.add_sub_cancel]
        refine r_run okX6_reckon 2 (cs := []) (σ' := (9, [some (.ref 87), some (.int f), some (.int (nI e)), some (.ref 76), some (.int (nI (r.length + 2))), some (.int (nI k)), none, none], [.int (nI e), .int (nI k)], (SS b c), (sQ 94 I g), J, 0, 0)) rfl trivial ?_
        refine r_icmp okX6_reckon rfl (fun (h9 : (nI e) ≤ (nI k)) => ?_) (fun (h9 : ¬ (nI e) ≤ (nI k)) => ?_)
        · exact absurd h9 (nI_ge (by omega) (by omega))
        · refine r_run okX6_reckon 6 (cs := [vp_in (nI k) 800]) (σ' := (23, [some (.ref 87), some (.int f), some (.int (nI e)), some (.ref 76), some (.int (nI (r.length + 2))), some (.int (nI k)), some (.int (I 88 ((nI k).toNatClampNeg))), none], [.int (I 88 ((nI k).toNatClampNeg))], (SS b c), (sQ 94 I g), J, 0, 0)) rfl ⟨(vin (by omega) (by decide)), trivial⟩ ?_
          simp only [ck, hc1]
          show Rj _ _ _ _ _ _ (23, [some (.ref 87), some (.int f), some (.int (nI e)), some (.ref 76), some (.int (nI (r.length + 2))), some (.int (nI k)), some (.int 61), none], [.int 61], (SS b c), (sQ 94 I g), J, 0, 0)
          refine r_callS okX6_reckon okX6_operands [.int 61] [] rfl rfl rfl kkX6_operands rfl rfl (by decide) (by decide) ⟨Nat.le_refl _, Nat.le_refl _⟩ (Nat.le_of_ble_eq_true rfl) (o_ops61 γ) (fun v1 S1 I1 J1 hp => ?_)
          obtain ⟨rfl, rfl, rfl, rfl⟩ := hp
          show Rj _ _ _ _ _ _ (26, [some (.ref 87), some (.int f), some (.int (nI e)), some (.ref 76), some (.int (nI (r.length + 2))), some (.int (nI k)), some (.int 61), none], [.int 2], (SS b c), (sQ 94 I g), J, 0, 0)
          refine r_run okX6_reckon 3 (cs := []) (σ' := (32, [some (.ref 87), some (.int f), some (.int (nI e)), some (.ref 76), some (.int (nI (r.length + 2))), some (.int (nI k)), some (.int 61), some (.int 2)], [.int 2, .int (nI (r.length + 2))], (SS b c), (sQ 94 I g), J, 0, 0)) rfl trivial ?_
          refine r_icmp okX6_reckon rfl (fun (h32 : (nI (r.length + 2)) < (2 : Int32)) => ?_) (fun (h32 : ¬ (nI (r.length + 2)) < (2 : Int32)) => ?_)
          · exact absurd h32 (nI_nlt (a := r.length + 2) (b := 2) (by omega) (by omega))
          · refine r_run okX6_reckon 4 (cs := []) (σ' := (42, [some (.ref 87), some (.int f), some (.int (nI e)), some (.ref 76), some (.int (nI (r.length + 2))), some (.int (nI k)), some (.int 61), some (.int 2)], [.int 32, .int ((nI (r.length + 2)) - 2)], (SS b c), (sQ 94 I g), J, 0, 0)) rfl trivial ?_
            simp only [esub]
            show Rj _ _ _ _ _ _ (42, [some (.ref 87), some (.int f), some (.int (nI e)), some (.ref 76), some (.int (nI (r.length + 2))), some (.int (nI k)), some (.int 61), some (.int 2)], [.int 32, .int (nI r.length)], (SS b c), (sQ 94 I g), J, 0, 0)
            refine r_icmp okX6_reckon rfl (fun (h42 : (nI r.length) < (32 : Int32)) => ?_) (fun (h42 : ¬ (nI r.length) < (32 : Int32)) => ?_)
            · refine r_run okX6_reckon 6 (cs := []) (σ' := (58, [some (.ref 87), some (.int f), some (.int (nI e)), some (.ref 76), some (.int ((nI (r.length + 2)) - 2)), some (.int (nI k)), some (.int 61), some (.int 2)], [.int 16, .int 61], (SS b c), (sQ 94 I g), J, 0, 0)) rfl trivial ?_
              simp only [esub]
              show Rj _ _ _ _ _ _ (58, [some (.ref 87), some (.int f), some (.int (nI e)), some (.ref 76), some (.int (nI r.length)), some (.int (nI k)), some (.int 61), some (.int 2)], [.int 16, .int 61], (SS b c), (sQ 94 I g), J, 0, 0)
              refine r_icmp okX6_reckon rfl (fun (h58 : ¬ (61 : Int32) = (16 : Int32)) => ?_) (fun h580 => ?_)
              · refine r_run okX6_reckon 1 (cs := []) (σ' := (80, [some (.ref 87), some (.int f), some (.int (nI e)), some (.ref 76), some (.int (nI r.length)), some (.int (nI k)), some (.int 61), some (.int 2)], [.int 2], (SS b c), (sQ 94 I g), J, 0, 0)) rfl trivial ?_
                refine r_ifc okX6_reckon rfl (fun (h80 : ¬ (2 : Int32) = (0 : Int32)) => ?_) (fun h800 => ?_)
                · refine r_run okX6_reckon 2 (cs := []) (σ' := (104, [some (.ref 87), some (.int f), some (.int (nI e)), some (.ref 76), some (.int (nI r.length)), some (.int (nI k)), some (.int 61), some (.int 2)], [.int 6, .int 61], (SS b c), (sQ 94 I g), J, 0, 0)) rfl trivial ?_
                  refine r_icmp okX6_reckon rfl (fun (h104 : ¬ (61 : Int32) = (6 : Int32)) => ?_) (fun h1040 => ?_)
                  · refine r_run okX6_reckon 2 (cs := []) (σ' := (130, [some (.ref 87), some (.int f), some (.int (nI e)), some (.ref 76), some (.int (nI r.length)), some (.int (nI k)), some (.int 61), some (.int 2)], [.int 47, .int 61], (SS b c), (sQ 94 I g), J, 0, 0)) rfl trivial ?_
                    refine r_icmp okX6_reckon rfl (fun (h130 : ¬ (61 : Int32) = (47 : Int32)) => ?_) (fun h1300 => ?_)
                    · refine r_run okX6_reckon 14 (cs := [vp_in (nI r.length) 32, vp_in ((nI r.length) + 1) 32]) (σ' := (196, [some (.ref 87), some (.int f), some (.int (nI e)), some (.ref 76), some (.int (nI r.length)), some (.int (nI k)), some (.int 61), some (.int 2)], [.int (g (((nI r.length) + 1).toNatClampNeg)), .int (g ((nI r.length).toNatClampNeg)), .int 61, .int (nI r.length), .ref 94], (SS b c), (sQ 94 I g), J, 0, 0)) rfl ⟨(vin (by omega) (by decide)), (by rw [nI_eq1]; exact vin (by omega) (by decide)), trivial⟩ ?_
                      simp only [cs1, nI_eq1, cs2, hy, hx]
                      show Rj _ _ _ _ _ _ (196, [some (.ref 87), some (.int f), some (.int (nI e)), some (.ref 76), some (.int (nI r.length)), some (.int (nI k)), some (.int 61), some (.int 2)], [.int y, .int x, .int 61, .int (nI r.length), .ref 94], (SS b c), (sQ 94 I g), J, 0, 0)
                      refine r_callS okX6_reckon okX6_join [.int 61, .int x, .int y] [.int (nI r.length), .ref 94] rfl rfl rfl kkX6_join rfl rfl (by decide) (by decide) ⟨Nat.le_refl _, Nat.le_refl _⟩ (Nat.le_of_ble_eq_true rfl) (o_join61 γ x y) (fun v1 S1 I1 J1 hp => ?_)
                      obtain ⟨rfl, rfl, rfl, rfl⟩ := hp
                      show Rj _ _ _ _ _ _ (199, [some (.ref 87), some (.int f), some (.int (nI e)), some (.ref 76), some (.int (nI r.length)), some (.int (nI k)), some (.int 61), some (.int 2)], [.int (if x = y then 1 else 0), .int (nI r.length), .ref 94], (SS b c), (sQ 94 I g), J, 0, 0)
                      refine r_run okX6_reckon 4 (cs := [vp_in (nI r.length) 32]) (σ' := (6, [some (.ref 87), some (.int f), some (.int (nI e)), some (.ref 76), some (.int ((nI r.length) + 1)), some (.int ((nI k) + 1)), some (.int 61), some (.int 2)], [], (SS b c), (upI (sQ 94 I g) 94 ((nI r.length).toNatClampNeg) (if x = y then 1 else 0)), J, 0, 0)) rfl ⟨(vin (by omega) (by decide)), trivial⟩ ?_
                      simp only [cs1, nI_eq1]
                      show Rj _ _ _ _ _ _ (6, [some (.ref 87), some (.int f), some (.int (nI e)), some (.ref 76), some (.int (nI (r.length + 1))), some (.int (nI (k + 1))), some (.int 61), some (.int 2)], [], (SS b c), (upI (sQ 94 I g) 94 r.length (if x = y then 1 else 0)), J, 0, 0)
                      rw [sQ_u]
                      refine r_weak (L' := [some (.ref 87), some (.int f), some (.int (nI e)), some (.ref 76), some (.int (nI (r.length + 1))), some (.int (nI (k + 1))), none, none]) ⟨rfl, rfl, rfl, rfl, rfl, rfl, trivial⟩ ?_
                      refine ih (k + 1) ((if x = y then 1 else 0) :: r) (true :: r0) _ (by omega) (by rw [List.length_cons]; exact ht1) ⟨(fun _ => bz_if), hBr⟩ hc3 ⟨upd_t, StL_u (Nat.le_refl _) hLr⟩ hty1 ?_
                      refine Eq.trans (congrArg (evC h c0) ?_) hev
                      exact Eq.symm rfl
                    · have h130 : (61 : Int32) = (47 : Int32) := Classical.not_not.mp h1300
                      exact absurd h130 (by decide)
                  · have h104 : (61 : Int32) = (6 : Int32) := Classical.not_not.mp h1040
                    exact absurd h104 (by decide)
                · have h80 : (2 : Int32) = (0 : Int32) := Classical.not_not.mp h800
                  exact absurd h80 (by decide)
              · have h58 : (61 : Int32) = (16 : Int32) := Classical.not_not.mp h580
                exact absurd h58 (by decide)
            · exact absurd (nI_lt (a := r.length) (b := 32) (by omega) (by decide)) h42
      · have e1 : o1 = 8 := e1
        subst e1
        subst e2
        have hc1 : I 88 k = 62 := hc1
        subst er
        obtain ⟨y, r1, rfl, by_, hB1⟩ := StB_c hB
        obtain ⟨x, r, rfl, bx, hBr⟩ := StB_c hB1
        obtain ⟨hy, hx, hLr⟩ := hL
        have hy : g (r.length + 1) = y := hy
        have hln := StB_len hBr
        rw [List.length_cons, List.length_cons] at ht
        rw [List.length_cons] at ht1
        have cs1 : (nI r.length).toNatClampNeg = r.length := nI_clamp (by omega)
        have cs2 : (nI (r.length + 1)).toNatClampNeg = r.length + 1 := nI_clamp (by omega)
        have esub : nI (r.length + 2) - 2 = nI r.length := by rw [show (2 : Int32) = nI 2 from rfl, pk_sub (by omega), Nat.add_sub_cancel]
        refine r_run okX6_reckon 2 (cs := []) (σ' := (9, [some (.ref 87), some (.int f), some (.int (nI e)), some (.ref 76), some (.int (nI (r.length + 2))), some (.int (nI k)), none, none], [.int (nI e), .int (nI k)], (SS b c), (sQ 94 I g), J, 0, 0)) rfl trivial ?_
        refine r_icmp okX6_reckon rfl (fun (h9 : (nI e) ≤ (nI k)) => ?_) (fun (h9 : ¬ (nI e) ≤ (nI k)) => ?_)
        · exact absurd h9 (nI_ge (by omega) (by omega))
        · refine r_run okX6_reckon 6 (cs := [vp_in (nI k) 800]) (σ' := (23, [some (.ref 87), some (.int f), some (.int (nI e)), some (.ref 76), some (.int (nI (r.length + 2))), some (.int (nI k)), some (.int (I 88 ((nI k).toNatClampNeg))), none], [.int (I 88 ((nI k).toNatClampNeg))], (SS b c), (sQ 94 I g), J, 0, 0)) rfl ⟨(vin (by omega) (by decide)), trivial⟩ ?_
          simp only [ck, hc1]
          show Rj _ _ _ _ _ _ (23, [some (.ref 87), some (.int f), some (.int (nI e)), some (.ref 76), some (.int (nI (r.length + 2))), some (.int (nI k)), some (.int 62), none], [.int 62], (SS b c), (sQ 94 I g), J, 0, 0)
          refine r_callS okX6_reckon okX6_operands [.int 62] [] rfl rfl rfl kkX6_operands rfl rfl (by decide) (by decide) ⟨Nat.le_refl _, Nat.le_refl _⟩ (Nat.le_of_ble_eq_true rfl) (o_ops62 γ) (fun v1 S1 I1 J1 hp => ?_)
          obtain ⟨rfl, rfl, rfl, rfl⟩ := hp
          show Rj _ _ _ _ _ _ (26, [some (.ref 87), some (.int f), some (.int (nI e)), some (.ref 76), some (.int (nI (r.length + 2))), some (.int (nI k)), some (.int 62), none], [.int 2], (SS b c), (sQ 94 I g), J, 0, 0)
          refine r_run okX6_reckon 3 (cs := []) (σ' := (32, [some (.ref 87), some (.int f), some (.int (nI e)), some (.ref 76), some (.int (nI (r.length + 2))), some (.int (nI k)), some (.int 62), some (.int 2)], [.int 2, .int (nI (r.length + 2))], (SS b c), (sQ 94 I g), J, 0, 0)) rfl trivial ?_
          refine r_icmp okX6_reckon rfl (fun (h32 : (nI (r.length + 2)) < (2 : Int32)) => ?_) (fun (h32 : ¬ (nI (r.length + 2)) < (2 : Int32)) => ?_)
          · exact absurd h32 (nI_nlt (a := r.length + 2) (b := 2) (by omega) (by omega))
          · refine r_run okX6_reckon 4 (cs := []) (σ' := (42, [some (.ref 87), some (.int f), some (.int (nI e)), some (.ref 76), some (.int (nI (r.length + 2))), some (.int (nI k)), some (.int 62), some (.int 2)], [.int 32, .int ((nI (r.length + 2)) - 2)], (SS b c), (sQ 94 I g), J, 0, 0)) rfl trivial ?_
            simp only [esub]
            show Rj _ _ _ _ _ _ (42, [some (.ref 87), some (.int f), some (.int (nI e)), some (.ref 76), some (.int (nI (r.length + 2))), some (.int (nI k)), some (.int 62), some (.int 2)], [.int 32, .int (nI r.length)], (SS b c), (sQ 94 I g), J, 0, 0)
            refine r_icmp okX6_reckon rfl (fun (h42 : (nI r.length) < (32 : Int32)) => ?_) (fun (h42 : ¬ (nI r.length) < (32 : Int32)) => ?_)
            · refine r_run okX6_reckon 6 (cs := []) (σ' := (58, [some (.ref 87), some (.int f), some (.int (nI e)), some (.ref 76), some (.int ((nI (r.length + 2)) - 2)), some (.int (nI k)), some (.int 62), some (.int 2)], [.int 16, .int 62], (SS b c), (sQ 94 I g), J, 0, 0)) rfl trivial ?_
              simp only [esub]
              show Rj _ _ _ _ _ _ (58, [some (.ref 87), some (.int f), some (.int (nI e)), some (.ref 76), some (.int (nI r.length)), some (.int (nI k)), some (.int 62), some (.int 2)], [.int 16, .int 62], (SS b c), (sQ 94 I g), J, 0, 0)
              refine r_icmp okX6_reckon rfl (fun (h58 : ¬ (62 : Int32) = (16 : Int32)) => ?_) (fun h580 => ?_)
              · refine r_run okX6_reckon 1 (cs := []) (σ' := (80, [some (.ref 87), some (.int f), some (.int (nI e)), some (.ref 76), some (.int (nI r.length)), some (.int (nI k)), some (.int 62), some (.int 2)], [.int 2], (SS b c), (sQ 94 I g), J, 0, 0)) rfl trivial ?_
                refine r_ifc okX6_reckon rfl (fun (h80 : ¬ (2 : Int32) = (0 : Int32)) => ?_) (fun h800 => ?_)
                · refine r_run okX6_reckon 2 (cs := []) (σ' := (104, [some (.ref 87), some (.int f), some (.int (nI e)), some (.ref 76), some (.int (nI r.length)), some (.int (nI k)), some (.int 62), some (.int 2)], [.int 6, .int 62], (SS b c), (sQ 94 I g), J, 0, 0)) rfl trivial ?_
                  refine r_icmp okX6_reckon rfl (fun (h104 : ¬ (62 : Int32) = (6 : Int32)) => ?_) (fun h1040 => ?_)
                  · refine r_run okX6_reckon 2 (cs := []) (σ' := (130, [some (.ref 87), some (.int f), some (.int (nI e)), some (.ref 76), some (.int (nI r.length)), some (.int (nI k)), some (.int 62), some (.int 2)], [.int 47, .int 62], (SS b c), (sQ 94 I g), J, 0, 0)) rfl trivial ?_
                    refine r_icmp okX6_reckon rfl (fun (h130 : ¬ (62 : Int32) = (47 : Int32)) => ?_) (fun h1300 => ?_)
                    · refine r_run okX6_reckon 14 (cs := [vp_in (nI r.length) 32, vp_in ((nI r.length) + 1) 32]) (σ' := (196, [some (.ref 87), some (.int f), some (.int (nI e)), some (.ref 76), some (.int (nI r.length)), some (.int (nI k)), some (.int 62), some (.int 2)], [.int (g (((nI r.length) + 1).toNatClampNeg)), .int (g ((nI r.length).toNatClampNeg)), .int 62, .int (nI r.length), .ref 94], (SS b c), (sQ 94 I g), J, 0, 0)) rfl ⟨(vin (by omega) (by decide)), (by rw [nI_eq1]; exact vin (by omega) (by decide)), trivial⟩ ?_
                      simp only [cs1, nI_eq1, cs2, hy, hx]
                      show Rj _ _ _ _ _ _ (196, [some (.ref 87), some (.int f), some (.int (nI e)), some (.ref 76), some (.int (nI r.length)), some (.int (nI k)), some (.int 62), some (.int 2)], [.int y, .int x, .int 62, .int (nI r.length), .ref 94], (SS b c), (sQ 94 I g), J, 0, 0)
                      refine r_callS okX6_reckon okX6_join [.int 62, .int x, .int y] [.int (nI r.length), .ref 94] rfl rfl rfl kkX6_join rfl rfl (by decide) (by decide) ⟨Nat.le_refl _, Nat.le_refl _⟩ (Nat.le_of_ble_eq_true rfl) (o_join62 γ x y) (fun v1 S1 I1 J1 hp => ?_)
                      obtain ⟨rfl, rfl, rfl, rfl⟩ := hp
                      show Rj _ _ _ _ _ _ (199, [some (.ref 87), some (.int f), some (.int (nI e)), some (.ref 76), some (.int (nI r.length)), some (.int (nI k)), some (.int 62), some (.int 2)], [.int (if y < x then 1 else 0), .int (nI r.length), .ref 94], (SS b c), (sQ 94 I g), J, 0, 0)
                      refine r_run okX6_reckon 4 (cs := [vp_in (nI r.length) 32]) (σ' := (6, [some (.ref 87), some (.int f), some (.int (nI e)), some (.ref 76), some (.int ((nI r.length) + 1)), some (.int ((nI k) + 1)), some (.int 62), some (.int 2)], [], (SS b c), (upI (sQ 94 I g) 94 ((nI r.length).toNatClampNeg) (if y < x then 1 else 0)), J, 0, 0)) rfl ⟨(vin (by omega) (by decide)), trivial⟩ ?_
                      simp only [cs1, nI_eq1]
                      show Rj _ _ _ _ _ _ (6, [some (.ref 87), some (.int f), some (.int (nI e)), some (.ref 76), some (.int (nI (r.length + 1))), some (.int (nI (k + 1))), some (.int 62), some (.int 2)], [], (SS b c), (upI (sQ 94 I g) 94 r.length (if y < x then 1 else 0)), J, 0, 0)
                      rw [sQ_u]
                      refine r_weak (L' := [some (.ref 87), some (.int f), some (.int (nI e)), some (.ref 76), some (.int (nI (r.length + 1))), some (.int (nI (k + 1))), none, none]) ⟨rfl, rfl, rfl, rfl, rfl, rfl, trivial⟩ ?_
                      refine ih (k + 1) ((if y < x then 1 else 0) :: r) (true :: r0) _ (by omega) (by rw [List.length_cons]; exact ht1) ⟨(fun _ => bz_if), hBr⟩ hc3 ⟨upd_t, StL_u (Nat.le_refl _) hLr⟩ hty1 ?_
                      refine Eq.trans (congrArg (evC h c0) ?_) hev
                      exact Eq.symm rfl
                    · have h130 : (62 : Int32) = (47 : Int32) := Classical.not_not.mp h1300
                      exact absurd h130 (by decide)
                  · have h104 : (62 : Int32) = (6 : Int32) := Classical.not_not.mp h1040
                    exact absurd h104 (by decide)
                · have h80 : (2 : Int32) = (0 : Int32) := Classical.not_not.mp h800
                  exact absurd h80 (by decide)
              · have h58 : (62 : Int32) = (16 : Int32) := Classical.not_not.mp h580
                exact absurd h58 (by decide)
            · exact absurd (nI_lt (a := r.length) (b := 32) (by omega) (by decide)) h42
    · rcases e1 with e1 | e1
      · have e1 : o1 = 10 := e1
        subst e1
        subst e2
        have hc1 : I 88 k = 5 := hc1
        subst er
        obtain ⟨y, r1, rfl, by_, hB1⟩ := StB_c hB
        obtain ⟨x, r, rfl, bx, hBr⟩ := StB_c hB1
        obtain ⟨hy, hx, hLr⟩ := hL
        have hy : g (r.length + 1) = y := hy
        have hln := StB_len hBr
        rw [List.length_cons, List.length_cons] at ht
        rw [List.length_cons] at ht1
        have cs1 : (nI r.length).toNatClampNeg = r.length := nI_clamp (by omega)
        have cs2 : (nI (r.length + 1)).toNatClampNeg = r.length + 1 := nI_clamp (by omega)
        have esub : nI (r.length + 2) - 2 = nI r.length := by rw [show (2 : Int32) = nI 2 from rfl, pk_sub (by omega), Nat.add_sub_cancel]
        have bx := bx rfl
        have by_ := by_ rfl
        refine r_run okX6_reckon 2 (cs := []) (σ' := (9, [some (.ref 87), some (.int f), some (.int (nI e)), some (.ref 76), some (.int (nI (r.length + 2))), some (.int (nI k)), none, none], [.int (nI e), .int (nI k)], (SS b c), (sQ 94 I g), J, 0, 0)) rfl trivial ?_
        refine r_icmp okX6_reckon rfl (fun (h9 : (nI e) ≤ (nI k)) => ?_) (fun (h9 : ¬ (nI e) ≤ (nI k)) => ?_)
        · exact absurd h9 (nI_ge (by omega) (by omega))
        · refine r_run okX6_reckon 6 (cs := [vp_in (nI k) 800]) (σ' := (23, [some (.ref 87), some (.int f), some (.int (nI e)), some (.ref 76), some (.int (nI (r.length + 2))), some (.int (nI k)), some (.int (I 88 ((nI k).toNatClampNeg))), none], [.int (I 88 ((nI k).toNatClampNeg))], (SS b c), (sQ 94 I g), J, 0, 0)) rfl ⟨(vin (by omega) (by decide)), trivial⟩ ?_
          simp only [ck, hc1]
          show Rj _ _ _ _ _ _ (23, [some (.ref 87), some (.int f), some (.int (nI e)), some (.ref 76), some (.int (nI (r.length + 2))), some (.int (nI k)), some (.int 5), none], [.int 5], (SS b c), (sQ 94 I g), J, 0, 0)
          refine r_callS okX6_reckon okX6_operands [.int 5] [] rfl rfl rfl kkX6_operands rfl rfl (by decide) (by decide) ⟨Nat.le_refl _, Nat.le_refl _⟩ (Nat.le_of_ble_eq_true rfl) (o_ops5 γ) (fun v1 S1 I1 J1 hp => ?_)
          obtain ⟨rfl, rfl, rfl, rfl⟩ := hp
          show Rj _ _ _ _ _ _ (26, [some (.ref 87), some (.int f), some (.int (nI e)), some (.ref 76), some (.int (nI (r.length + 2))), some (.int (nI k)), some (.int 5), none], [.int 2], (SS b c), (sQ 94 I g), J, 0, 0)
          refine r_run okX6_reckon 3 (cs := []) (σ' := (32, [some (.ref 87), some (.int f), some (.int (nI e)), some (.ref 76), some (.int (nI (r.length + 2))), some (.int (nI k)), some (.int 5), some (.int 2)], [.int 2, .int (nI (r.length + 2))], (SS b c), (sQ 94 I g), J, 0, 0)) rfl trivial ?_
          refine r_icmp okX6_reckon rfl (fun (h32 : (nI (r.length + 2)) < (2 : Int32)) => ?_) (fun (h32 : ¬ (nI (r.length + 2)) < (2 : Int32)) => ?_)
          · exact absurd h32 (nI_nlt (a := r.length + 2) (b := 2) (by omega) (by omega))
          · refine r_run okX6_reckon 4 (cs := []) (σ' := (42, [some (.ref 87), some (.int f), some (.int (nI e)), some (.ref 76), some (.int (nI (r.length + 2))), some (.int (nI k)), some (.int 5), some (.int 2)], [.int 32, .int ((nI (r.length + 2)) - 2)], (SS b c), (sQ 94 I g), J, 0, 0)) rfl trivial ?_
            simp only [esub]
            show Rj _ _ _ _ _ _ (42, [some (.ref 87), some (.int f), some (.int (nI e)), some (.ref 76), some (.int (nI (r.length + 2))), some (.int (nI k)), some (.int 5), some (.int 2)], [.int 32, .int (nI r.length)], (SS b c), (sQ 94 I g), J, 0, 0)
            refine r_icmp okX6_reckon rfl (fun (h42 : (nI r.length) < (32 : Int32)) => ?_) (fun (h42 : ¬ (nI r.length) < (32 : Int32)) => ?_)
            · refine r_run okX6_reckon 6 (cs := []) (σ' := (58, [some (.ref 87), some (.int f), some (.int (nI e)), some (.ref 76), some (.int ((nI (r.length + 2)) - 2)), some (.int (nI k)), some (.int 5), some (.int 2)], [.int 16, .int 5], (SS b c), (sQ 94 I g), J, 0, 0)) rfl trivial ?_
              simp only [esub]
              show Rj _ _ _ _ _ _ (58, [some (.ref 87), some (.int f), some (.int (nI e)), some (.ref 76), some (.int (nI r.length)), some (.int (nI k)), some (.int 5), some (.int 2)], [.int 16, .int 5], (SS b c), (sQ 94 I g), J, 0, 0)
              refine r_icmp okX6_reckon rfl (fun (h58 : ¬ (5 : Int32) = (16 : Int32)) => ?_) (fun h580 => ?_)
              · refine r_run okX6_reckon 1 (cs := []) (σ' := (80, [some (.ref 87), some (.int f), some (.int (nI e)), some (.ref 76), some (.int (nI r.length)), some (.int (nI k)), some (.int 5), some (.int 2)], [.int 2], (SS b c), (sQ 94 I g), J, 0, 0)) rfl trivial ?_
                refine r_ifc okX6_reckon rfl (fun (h80 : ¬ (2 : Int32) = (0 : Int32)) => ?_) (fun h800 => ?_)
                · refine r_run okX6_reckon 2 (cs := []) (σ' := (104, [some (.ref 87), some (.int f), some (.int (nI e)), some (.ref 76), some (.int (nI r.length)), some (.int (nI k)), some (.int 5), some (.int 2)], [.int 6, .int 5], (SS b c), (sQ 94 I g), J, 0, 0)) rfl trivial ?_
                  refine r_icmp okX6_reckon rfl (fun (h104 : ¬ (5 : Int32) = (6 : Int32)) => ?_) (fun h1040 => ?_)
                  · refine r_run okX6_reckon 2 (cs := []) (σ' := (130, [some (.ref 87), some (.int f), some (.int (nI e)), some (.ref 76), some (.int (nI r.length)), some (.int (nI k)), some (.int 5), some (.int 2)], [.int 47, .int 5], (SS b c), (sQ 94 I g), J, 0, 0)) rfl trivial ?_
                    refine r_icmp okX6_reckon rfl (fun (h130 : ¬ (5 : Int32) = (47 : Int32)) => ?_) (fun h1300 => ?_)
                    · refine r_run okX6_reckon 14 (cs := [vp_in (nI r.length) 32, vp_in ((nI r.length) + 1) 32]) (σ' := (196, [some (.ref 87), some (.int f), some (.int (nI e)), some (.ref 76), some (.int (nI r.length)), some (.int (nI k)), some (.int 5), some (.int 2)], [.int (g (((nI r.length) + 1).toNatClampNeg)), .int (g ((nI r.length).toNatClampNeg)), .int 5, .int (nI r.length), .ref 94], (SS b c), (sQ 94 I g), J, 0, 0)) rfl ⟨(vin (by omega) (by decide)), (by rw [nI_eq1]; exact vin (by omega) (by decide)), trivial⟩ ?_
                      simp only [cs1, nI_eq1, cs2, hy, hx]
                      show Rj _ _ _ _ _ _ (196, [some (.ref 87), some (.int f), some (.int (nI e)), some (.ref 76), some (.int (nI r.length)), some (.int (nI k)), some (.int 5), some (.int 2)], [.int y, .int x, .int 5, .int (nI r.length), .ref 94], (SS b c), (sQ 94 I g), J, 0, 0)
                      refine r_callS okX6_reckon okX6_join [.int 5, .int x, .int y] [.int (nI r.length), .ref 94] rfl rfl rfl kkX6_join rfl rfl (by decide) (by decide) ⟨Nat.le_refl _, Nat.le_refl _⟩ (Nat.le_of_ble_eq_true rfl) (o_join5 γ x y) (fun v1 S1 I1 J1 hp => ?_)
                      obtain ⟨rfl, rfl, rfl, rfl⟩ := hp
                      show Rj _ _ _ _ _ _ (199, [some (.ref 87), some (.int f), some (.int (nI e)), some (.ref 76), some (.int (nI r.length)), some (.int (nI k)), some (.int 5), some (.int 2)], [.int (x &&& y), .int (nI r.length), .ref 94], (SS b c), (sQ 94 I g), J, 0, 0)
                      refine r_run okX6_reckon 4 (cs := [vp_in (nI r.length) 32]) (σ' := (6, [some (.ref 87), some (.int f), some (.int (nI e)), some (.ref 76), some (.int ((nI r.length) + 1)), some (.int ((nI k) + 1)), some (.int 5), some (.int 2)], [], (SS b c), (upI (sQ 94 I g) 94 ((nI r.length).toNatClampNeg) (x &&& y)), J, 0, 0)) rfl ⟨(vin (by omega) (by decide)), trivial⟩ ?_
                      simp only [cs1, nI_eq1]
                      show Rj _ _ _ _ _ _ (6, [some (.ref 87), some (.int f), some (.int (nI e)), some (.ref 76), some (.int (nI (r.length + 1))), some (.int (nI (k + 1))), some (.int 5), some (.int 2)], [], (SS b c), (upI (sQ 94 I g) 94 r.length (x &&& y)), J, 0, 0)
                      rw [sQ_u]
                      rw [(bz_and bx by_).1]
                      refine r_weak (L' := [some (.ref 87), some (.int f), some (.int (nI e)), some (.ref 76), some (.int (nI (r.length + 1))), some (.int (nI (k + 1))), none, none]) ⟨rfl, rfl, rfl, rfl, rfl, rfl, trivial⟩ ?_
                      refine ih (k + 1) ((x * y) :: r) (true :: r0) _ (by omega) (by rw [List.length_cons]; exact ht1) ⟨(fun _ => (bz_and bx by_).2), hBr⟩ hc3 ⟨upd_t, StL_u (Nat.le_refl _) hLr⟩ hty1 ?_
                      refine Eq.trans (congrArg (evC h c0) ?_) hev
                      exact Eq.symm rfl
                    · have h130 : (5 : Int32) = (47 : Int32) := Classical.not_not.mp h1300
                      exact absurd h130 (by decide)
                  · have h104 : (5 : Int32) = (6 : Int32) := Classical.not_not.mp h1040
                    exact absurd h104 (by decide)
                · have h80 : (2 : Int32) = (0 : Int32) := Classical.not_not.mp h800
                  exact absurd h80 (by decide)
              · have h58 : (5 : Int32) = (16 : Int32) := Classical.not_not.mp h580
                exact absurd h58 (by decide)
            · exact absurd (nI_lt (a := r.length) (b := 32) (by omega) (by decide)) h42
      · have e1 : o1 = 11 := e1
        subst e1
        subst e2
        have hc1 : I 88 k = 4 := hc1
        subst er
        obtain ⟨y, r1, rfl, by_, hB1⟩ := StB_c hB
        obtain ⟨x, r, rfl, bx, hBr⟩ := StB_c hB1
        obtain ⟨hy, hx, hLr⟩ := hL
        have hy : g (r.length + 1) = y := hy
        have hln := StB_len hBr
        rw [List.length_cons, List.length_cons] at ht
        rw [List.length_cons] at ht1
        have cs1 : (nI r.length).toNatClampNeg = r.length := nI_clamp (by omega)
        have cs2 : (nI (r.length + 1)).toNatClampNeg = r.length + 1 := nI_clamp (by omega)
        have esub : nI (r.length + 2) - 2 = nI r.length := by rw [show (2 : Int32) = nI 2 from rfl, pk_sub (by omega), Nat.add_sub_cancel]
        have bx := bx rfl
        have by_ := by_ rfl
        refine r_run okX6_reckon 2 (cs := []) (σ' := (9, [some (.ref 87), some (.int f), some (.int (nI e)), some (.ref 76), some (.int (nI (r.length + 2))), some (.int (nI k)), none, none], [.int (nI e), .int (nI k)], (SS b c), (sQ 94 I g), J, 0, 0)) rfl trivial ?_
        refine r_icmp okX6_reckon rfl (fun (h9 : (nI e) ≤ (nI k)) => ?_) (fun (h9 : ¬ (nI e) ≤ (nI k)) => ?_)
        · exact absurd h9 (nI_ge (by omega) (by omega))
        · refine r_run okX6_reckon 6 (cs := [vp_in (nI k) 800]) (σ' := (23, [some (.ref 87), some (.int f), some (.int (nI e)), some (.ref 76), some (.int (nI (r.length + 2))), some (.int (nI k)), some (.int (I 88 ((nI k).toNatClampNeg))), none], [.int (I 88 ((nI k).toNatClampNeg))], (SS b c), (sQ 94 I g), J, 0, 0)) rfl ⟨(vin (by omega) (by decide)), trivial⟩ ?_
          simp only [ck, hc1]
          show Rj _ _ _ _ _ _ (23, [some (.ref 87), some (.int f), some (.int (nI e)), some (.ref 76), some (.int (nI (r.length + 2))), some (.int (nI k)), some (.int 4), none], [.int 4], (SS b c), (sQ 94 I g), J, 0, 0)
          refine r_callS okX6_reckon okX6_operands [.int 4] [] rfl rfl rfl kkX6_operands rfl rfl (by decide) (by decide) ⟨Nat.le_refl _, Nat.le_refl _⟩ (Nat.le_of_ble_eq_true rfl) (o_ops4 γ) (fun v1 S1 I1 J1 hp => ?_)
          obtain ⟨rfl, rfl, rfl, rfl⟩ := hp
          show Rj _ _ _ _ _ _ (26, [some (.ref 87), some (.int f), some (.int (nI e)), some (.ref 76), some (.int (nI (r.length + 2))), some (.int (nI k)), some (.int 4), none], [.int 2], (SS b c), (sQ 94 I g), J, 0, 0)
          refine r_run okX6_reckon 3 (cs := []) (σ' := (32, [some (.ref 87), some (.int f), some (.int (nI e)), some (.ref 76), some (.int (nI (r.length + 2))), some (.int (nI k)), some (.int 4), some (.int 2)], [.int 2, .int (nI (r.length + 2))], (SS b c), (sQ 94 I g), J, 0, 0)) rfl trivial ?_
          refine r_icmp okX6_reckon rfl (fun (h32 : (nI (r.length + 2)) < (2 : Int32)) => ?_) (fun (h32 : ¬ (nI (r.length + 2)) < (2 : Int32)) => ?_)
          · exact absurd h32 (nI_nlt (a := r.length + 2) (b := 2) (by omega) (by omega))
          · refine r_run okX6_reckon 4 (cs := []) (σ' := (42, [some (.ref 87), some (.int f), some (.int (nI e)), some (.ref 76), some (.int (nI (r.length + 2))), some (.int (nI k)), some (.int 4), some (.int 2)], [.int 32, .int ((nI (r.length + 2)) - 2)], (SS b c), (sQ 94 I g), J, 0, 0)) rfl trivial ?_
            simp only [esub]
            show Rj _ _ _ _ _ _ (42, [some (.ref 87), some (.int f), some (.int (nI e)), some (.ref 76), some (.int (nI (r.length + 2))), some (.int (nI k)), some (.int 4), some (.int 2)], [.int 32, .int (nI r.length)], (SS b c), (sQ 94 I g), J, 0, 0)
            refine r_icmp okX6_reckon rfl (fun (h42 : (nI r.length) < (32 : Int32)) => ?_) (fun (h42 : ¬ (nI r.length) < (32 : Int32)) => ?_)
            · refine r_run okX6_reckon 6 (cs := []) (σ' := (58, [some (.ref 87), some (.int f), some (.int (nI e)), some (.ref 76), some (.int ((nI (r.length + 2)) - 2)), some (.int (nI k)), some (.int 4), some (.int 2)], [.int 16, .int 4], (SS b c), (sQ 94 I g), J, 0, 0)) rfl trivial ?_
              simp only [esub]
              show Rj _ _ _ _ _ _ (58, [some (.ref 87), some (.int f), some (.int (nI e)), some (.ref 76), some (.int (nI r.length)), some (.int (nI k)), some (.int 4), some (.int 2)], [.int 16, .int 4], (SS b c), (sQ 94 I g), J, 0, 0)
              refine r_icmp okX6_reckon rfl (fun (h58 : ¬ (4 : Int32) = (16 : Int32)) => ?_) (fun h580 => ?_)
              · refine r_run okX6_reckon 1 (cs := []) (σ' := (80, [some (.ref 87), some (.int f), some (.int (nI e)), some (.ref 76), some (.int (nI r.length)), some (.int (nI k)), some (.int 4), some (.int 2)], [.int 2], (SS b c), (sQ 94 I g), J, 0, 0)) rfl trivial ?_
                refine r_ifc okX6_reckon rfl (fun (h80 : ¬ (2 : Int32) = (0 : Int32)) => ?_) (fun h800 => ?_)
                · refine r_run okX6_reckon 2 (cs := []) (σ' := (104, [some (.ref 87), some (.int f), some (.int (nI e)), some (.ref 76), some (.int (nI r.length)), some (.int (nI k)), some (.int 4), some (.int 2)], [.int 6, .int 4], (SS b c), (sQ 94 I g), J, 0, 0)) rfl trivial ?_
                  refine r_icmp okX6_reckon rfl (fun (h104 : ¬ (4 : Int32) = (6 : Int32)) => ?_) (fun h1040 => ?_)
                  · refine r_run okX6_reckon 2 (cs := []) (σ' := (130, [some (.ref 87), some (.int f), some (.int (nI e)), some (.ref 76), some (.int (nI r.length)), some (.int (nI k)), some (.int 4), some (.int 2)], [.int 47, .int 4], (SS b c), (sQ 94 I g), J, 0, 0)) rfl trivial ?_
                    refine r_icmp okX6_reckon rfl (fun (h130 : ¬ (4 : Int32) = (47 : Int32)) => ?_) (fun h1300 => ?_)
                    · refine r_run okX6_reckon 14 (cs := [vp_in (nI r.length) 32, vp_in ((nI r.length) + 1) 32]) (σ' := (196, [some (.ref 87), some (.int f), some (.int (nI e)), some (.ref 76), some (.int (nI r.length)), some (.int (nI k)), some (.int 4), some (.int 2)], [.int (g (((nI r.length) + 1).toNatClampNeg)), .int (g ((nI r.length).toNatClampNeg)), .int 4, .int (nI r.length), .ref 94], (SS b c), (sQ 94 I g), J, 0, 0)) rfl ⟨(vin (by omega) (by decide)), (by rw [nI_eq1]; exact vin (by omega) (by decide)), trivial⟩ ?_
                      simp only [cs1, nI_eq1, cs2, hy, hx]
                      show Rj _ _ _ _ _ _ (196, [some (.ref 87), some (.int f), some (.int (nI e)), some (.ref 76), some (.int (nI r.length)), some (.int (nI k)), some (.int 4), some (.int 2)], [.int y, .int x, .int 4, .int (nI r.length), .ref 94], (SS b c), (sQ 94 I g), J, 0, 0)
                      refine r_callS okX6_reckon okX6_join [.int 4, .int x, .int y] [.int (nI r.length), .ref 94] rfl rfl rfl kkX6_join rfl rfl (by decide) (by decide) ⟨Nat.le_refl _, Nat.le_refl _⟩ (Nat.le_of_ble_eq_true rfl) (o_join4 γ x y) (fun v1 S1 I1 J1 hp => ?_)
                      obtain ⟨rfl, rfl, rfl, rfl⟩ := hp
                      show Rj _ _ _ _ _ _ (199, [some (.ref 87), some (.int f), some (.int (nI e)), some (.ref 76), some (.int (nI r.length)), some (.int (nI k)), some (.int 4), some (.int 2)], [.int (x ||| y), .int (nI r.length), .ref 94], (SS b c), (sQ 94 I g), J, 0, 0)
                      refine r_run okX6_reckon 4 (cs := [vp_in (nI r.length) 32]) (σ' := (6, [some (.ref 87), some (.int f), some (.int (nI e)), some (.ref 76), some (.int ((nI r.length) + 1)), some (.int ((nI k) + 1)), some (.int 4), some (.int 2)], [], (SS b c), (upI (sQ 94 I g) 94 ((nI r.length).toNatClampNeg) (x ||| y)), J, 0, 0)) rfl ⟨(vin (by omega) (by decide)), trivial⟩ ?_
                      simp only [cs1, nI_eq1]
                      show Rj _ _ _ _ _ _ (6, [some (.ref 87), some (.int f), some (.int (nI e)), some (.ref 76), some (.int (nI (r.length + 1))), some (.int (nI (k + 1))), some (.int 4), some (.int 2)], [], (SS b c), (upI (sQ 94 I g) 94 r.length (x ||| y)), J, 0, 0)
                      rw [sQ_u]
                      rw [(bz_or bx by_).1]
                      refine r_weak (L' := [some (.ref 87), some (.int f), some (.int (nI e)), some (.ref 76), some (.int (nI (r.length + 1))), some (.int (nI (k + 1))), none, none]) ⟨rfl, rfl, rfl, rfl, rfl, rfl, trivial⟩ ?_
                      refine ih (k + 1) ((if 0 < x + y then 1 else 0) :: r) (true :: r0) _ (by omega) (by rw [List.length_cons]; exact ht1) ⟨(fun _ => (bz_or bx by_).2), hBr⟩ hc3 ⟨upd_t, StL_u (Nat.le_refl _) hLr⟩ hty1 ?_
                      refine Eq.trans (congrArg (evC h c0) ?_) hev
                      exact Eq.symm rfl
                    · have h130 : (4 : Int32) = (47 : Int32) := Classical.not_not.mp h1300
                      exact absurd h130 (by decide)
                  · have h104 : (4 : Int32) = (6 : Int32) := Classical.not_not.mp h1040
                    exact absurd h104 (by decide)
                · have h80 : (2 : Int32) = (0 : Int32) := Classical.not_not.mp h800
                  exact absurd h80 (by decide)
              · have h58 : (4 : Int32) = (16 : Int32) := Classical.not_not.mp h580
                exact absurd h58 (by decide)
            · exact absurd (nI_lt (a := r.length) (b := 32) (by omega) (by decide)) h42
theorem o_reckon87 (γ : GE) {b c : Bool} {I : AI} {J : AJ} (h : Nat → Int32) (hh : ∀ q, q < 9 → I 76 q = h q) (v : Int32) (z : Bool) {e k : Nat} (he : e ≤ 800) (c0 : Cd) (hk : k + c0.length = e) (hc : cdT I 87 k c0) (hty : tyCd c0 [] = some [z]) (hev : evC h c0 [] = [v]) : Ct γ mX6_reckon 1 0 0 [.ref 87, .int (nI k), .int (nI e), .ref 76] (SS b c) I J (fun rt S' I' J' => some (.int v) = rt ∧ (SS b c) = S' ∧ (∃ g, I' = sQ 94 I g) ∧ J = J') := by
  refine ct_of okX6_reckon (L := [some (.ref 87), some (.int (nI k)), some (.int (nI e)), some (.ref 76), none, none, none, none]) (Nat.le_of_ble_eq_true rfl) rfl ?_
  refine r_run okX6_reckon 4 (cs := []) (σ' := (6, [some (.ref 87), some (.int (nI k)), some (.int (nI e)), some (.ref 76), some (.int 0), some (.int (nI k)), none, none], [], (SS b c), I, J, 0, 0)) rfl trivial ?_
  have hm := lp_rk87 γ (I := I) (J := J) (b := b) (c := c) h hh (nI k) v z he c0 k [] [] (I 94) hk (by decide) trivial hc trivial hty hev
  rw [sQ_self] at hm
  exact hm
