/-! ===== the reference: reads ===== -/
abbrev RR : Type := (Int32 × Nat) ⊕ List Ln
def LnE (T : Nat → Int32) (n : Nat) (a : Int32) (i : Nat) (res : PR) : Prop := if a = 0 then Sm T n i res else res = .inr ([], i)
def RdB (T : Nat → Int32) (n : Nat) (K : Nat → Ln → RR → Prop) (a : Int32) (q : Cd × Nat) (res : RR) : Prop :=
  (¬ kK T n q.2 = 3 ∧ res = .inl (1, q.2)) ∨ (kK T n q.2 = 3 ∧ ∃ r2, An T n (Cn T n 8) (q.2 + 1) r2 ∧ ((∃ e, r2 = .inl e ∧ res = .inl e) ∨ ∃ u, r2 = .inr u ∧ ((¬ kK T n u.2 = 59 ∧ res = .inl (1, u.2)) ∨ (kK T n u.2 = 59 ∧ K (u.2 + 1) (a, q.1, u.1) res))))
def RdT (T : Nat → Int32) (n : Nat) : Nat → Nat → List Ln → RR → Prop
  | 0, _, _, _ => False
  | f + 1, i, acc, res => if inB (kK T n i) 0 2 then (if acc.length = 16 then res = .inl (3, i) else ∃ r1, LnE T n (kK T n i) (i + 1) r1 ∧ ((∃ e, r1 = .inl e ∧ res = .inl e) ∨ ∃ q, r1 = .inr q ∧ RdB T n (fun j x r => RdT T n f j (acc ++ [x]) r) (kK T n i) q res))
    else if kK T n i = 17 then res = .inr acc else res = .inl (1, i)
def cdO : List Ln → List (Int32 × Int32)
  | [] => []
  | q :: ls => flt q.2.1 ++ flt q.2.2 ++ cdO ls
theorem cdO_app : ∀ {a c : List Ln}, cdO (a ++ c) = cdO a ++ cdO c
  | [], c => rfl
  | q :: a, c => by show _ ++ _ ++ cdO (a ++ c) = _ ++ _ ++ cdO a ++ cdO c; rw [cdO_app, ← List.append_assoc]
theorem cdO_1 {a : List Ln} {q : Ln} : cdO (a ++ [q]) = cdO a ++ flt q.2.1 ++ flt q.2.2 := by
  rw [cdO_app]; show _ ++ (_ ++ _ ++ []) = _; rw [List.append_nil, ← List.append_assoc]
def LnAt (X : AI) (o : Nat) : Nat → Nat → List Ln → Prop
  | _, _, [] => True
  | k, p, q :: ls => X 120 (o + k) = q.1 ∧ X 121 (o + k) = nI p ∧ X 122 (o + k) = nI (p + (flt q.2.1).length) ∧ X 123 (o + k) = nI (p + (flt q.2.1).length + (flt q.2.2).length) ∧ LnAt X o (k + 1) (p + (flt q.2.1).length + (flt q.2.2).length) ls
def qM (m a b : Nat) : Bool := qP a b || ((a == 120 || a == 121 || a == 122 || a == 123) && b == 16 + m)
def qR (a b : Nat) : Bool := qP a b || ((a == 120 || a == 121 || a == 122 || a == 123) && Nat.ble 16 b)
theorem fP_M {m : Nat} {X Y : AI} (h : fr qP X Y) : fr (qM m) X Y := fr_m (fun a b z => by unfold qM at z; rw [Bool.or_eq_false_iff] at z; exact z.1) h
theorem fP_R {X Y : AI} (h : fr qP X Y) : fr qR X Y := fr_m (fun a b z => by unfold qR at z; rw [Bool.or_eq_false_iff] at z; exact z.1) h
theorem fM_R {m : Nat} {X Y : AI} (h : fr (qM m) X Y) : fr qR X Y := fr_m (fun a b z => by
  unfold qR at z; unfold qM; rw [Bool.or_eq_false_iff] at z ⊢
  refine ⟨z.1, ?_⟩
  rw [Bool.and_eq_false_iff] at z ⊢
  rcases z.2 with q | q
  · exact Or.inl q
  · refine Or.inr ?_
    cases hb : b == 16 + m with
    | false => rfl
    | true => rw [eq_of_beq hb, Nat.ble_eq.mpr (Nat.le_add_right 16 m)] at q; cases q) h
theorem qM_lt {m a k : Nat} (ha : a = 120 ∨ a = 121 ∨ a = 122 ∨ a = 123) (hk : ¬ k = 16 + m) : qM m a k = false := by
  unfold qM
  have h : (k == 16 + m) = false := beq_false_of_ne hk
  rw [h]
  rcases ha with rfl | rfl | rfl | rfl <;> rfl
theorem LnAt_k {X Y : AI} {o N : Nat} (h : ∀ a k, (a = 120 ∨ a = 121 ∨ a = 122 ∨ a = 123) → k < o + N → Y a k = X a k) : ∀ {ls : List Ln} {k p : Nat}, k + ls.length ≤ N → LnAt X o k p ls → LnAt Y o k p ls
  | [], _, _, _, _ => trivial
  | q :: ls, k, p, hk, hh => by
    have hk' : o + k < o + N := by rw [List.length_cons] at hk; omega
    exact ⟨(h 120 _ (by simp) hk').trans hh.1, (h 121 _ (by simp) hk').trans hh.2.1, (h 122 _ (by simp) hk').trans hh.2.2.1, (h 123 _ (by simp) hk').trans hh.2.2.2.1, LnAt_k h (by rw [List.length_cons] at hk; omega) hh.2.2.2.2⟩
theorem LnAt_1 {X : AI} {o : Nat} {q : Ln} : ∀ {ls : List Ln} {k p : Nat}, LnAt X o k p ls → LnAt X o (k + ls.length) (p + (cdO ls).length) [q] → LnAt X o k p (ls ++ [q])
  | [], _, _, _, h => h
  | x :: ls, k, p, h1, h2 => ⟨h1.1, h1.2.1, h1.2.2.1, h1.2.2.2.1, LnAt_1 h1.2.2.2.2 (by
      rw [show k + 1 + ls.length = k + (x :: ls).length by rw [List.length_cons]; omega, show p + (flt x.2.1).length + (flt x.2.2).length + (cdO ls).length = p + (cdO (x :: ls)).length by show _ = p + (flt x.2.1 ++ flt x.2.2 ++ cdO ls).length; rw [List.length_append, List.length_append]; omega]
      exact h2)⟩
def qL (m a b : Nat) : Bool := (a == 120 || a == 121 || a == 122 || a == 123) && b == 16 + m
theorem fL_M {m : Nat} {X Y : AI} (h : fr (qL m) X Y) : fr (qM m) X Y := fr_m (fun a b z => by unfold qM at z; rw [Bool.or_eq_false_iff] at z; exact z.2) h
theorem up_L {X : AI} {m a : Nat} {v : Int32} (ha : a = 120 ∨ a = 121 ∨ a = 122 ∨ a = 123) : fr (qL m) X (upI X a (16 + m) v) := by
  intro x z hz
  unfold upI
  by_cases a1 : x = a
  · rw [if_pos a1]
    by_cases z1 : z = 16 + m
    · subst a1; subst z1
      unfold qL at hz
      rw [beq_self_eq_true, Bool.and_true] at hz
      rcases ha with rfl | rfl | rfl | rfl <;> cases hz
    · rw [if_neg z1]
  · rw [if_neg a1]
theorem qL_f {m a b : Nat} (h1 : ¬ a = 120) (h2 : ¬ a = 121) (h3 : ¬ a = 122) (h4 : ¬ a = 123) : qL m a b = false := by
  unfold qL
  rw [beq_false_of_ne h1, beq_false_of_ne h2, beq_false_of_ne h3, beq_false_of_ne h4]; rfl
theorem PSt_L {T : Nat → Int32} {n i m : Nat} {X Y : AI} (h : fr (qL m) X Y) (hP : PSt T n X i) : PSt T n Y i := by
  obtain ⟨h1, h2, h3, h4, h5, h6, h7⟩ := hP
  exact ⟨(fr_c h 118 (fun _ => rfl)).trans h1, (h 100 23 rfl).trans h2, MWds_k (fr_c h 119 (fun _ => rfl)) h3, h4, (h 100 24 rfl).trans h5, (h 100 25 rfl).trans h6, by rw [h 100 26 rfl, h 100 27 rfl]; exact h7⟩
theorem Out_L {X Y : AI} {m : Nat} {l : List (Int32 × Int32)} (h : fr (qL m) X Y) (hO : Out X l) : Out Y l := ⟨(h 100 36 rfl).trans hO.1, cdA_k (fr_c h 124 (fun _ => rfl)) (fr_c h 125 (fun _ => rfl)) hO.2⟩
theorem i16 {m : Nat} : (16 : Int32) + nI m = nI (16 + m) := nI_ad 16 m
theorem ct_FA (γ : GE) {b c : Bool} {X : AI} {J : AJ} {T : Nat → Int32} {n : Nat} {l : List (Int32 × Int32)} {m : MI} {d : Nat} {as : List Value} {res : PR} {e : Int32 × Nat} (he : res = .inl e) (h : Ct γ m d 0 0 as (SS b c) X J (fun r S' I' J' => (SS b c) = S' ∧ J = J' ∧ RsA T n X l res r I')) : Ct γ m d 0 0 as (SS b c) X J (fun r S' I' J' => some (.int (-1)) = r ∧ (SS b c) = S' ∧ (∃ X', X' = I' ∧ fr qP X X' ∧ X' 100 40 = e.1 ∧ X' 100 41 = nI (psN T n e.2)) ∧ J = J') := by
  subst he
  refine ct_post (fun r S' I' J' h => ?_) h
  obtain ⟨rfl, rfl, h1, h2, h3, h4⟩ := h
  exact ⟨h1, rfl, ⟨_, rfl, h2, h3, h4⟩, rfl⟩
theorem ct_SA (γ : GE) {b c : Bool} {X : AI} {J : AJ} {T : Nat → Int32} {n : Nat} {l : List (Int32 × Int32)} {m : MI} {d : Nat} {as : List Value} {res : PR} {q : Cd × Nat} (he : res = .inr q) (h : Ct γ m d 0 0 as (SS b c) X J (fun r S' I' J' => (SS b c) = S' ∧ J = J' ∧ RsA T n X l res r I')) : Ct γ m d 0 0 as (SS b c) X J (fun r S' I' J' => some (.int 0) = r ∧ (SS b c) = S' ∧ (∃ X', X' = I' ∧ fr qP X X' ∧ PSt T n X' q.2 ∧ Out X' (l ++ flt q.1) ∧ X' 100 37 = 0) ∧ J = J') := by
  subst he
  refine ct_post (fun r S' I' J' h => ?_) h
  obtain ⟨rfl, rfl, h1, h2, h3, h4, h5⟩ := h
  exact ⟨h1, rfl, ⟨_, rfl, h2, h3, h4, h5⟩, rfl⟩
theorem rd95 (γ : GE) {b c : Bool} {X : AI} {J : AJ} {T : Nat → Int32} {n : Nat} (hT : TpOK T n) {Post : PT} (m : Nat) (hm : m < 16) (K : Nat → Ln → RR → Prop) (a : Int32) (q : Cd × Nat) (l : List (Int32 × Int32)) (Y : AI) (hP : PSt T n Y q.2) (hO : Out Y l) (hl : l.length ≤ q.2) (hop : Y 100 37 = 0) (res : RR) (hd : RdB T n K a q res) (KF : ∀ (e : Int32 × Nat) (Z : AI), res = .inl e → fr (qM m) Y Z → Z 100 40 = e.1 → Z 100 41 = nI (psN T n e.2) → Post (some (.int (-1))) (SS b c) Z J) (KS : ∀ (u : Cd × Nat) (Z : AI), K (u.2 + 1) (a, q.1, u.1) res → fr (qM m) Y Z → PSt T n Z (u.2 + 1) → Out Z (l ++ flt u.1) → (l ++ flt u.1).length ≤ u.2 + 1 → Z 100 37 = 0 → Z 120 (16 + m) = Y 120 (16 + m) → Z 121 (16 + m) = Y 121 (16 + m) → Z 122 (16 + m) = nI l.length → Z 123 (16 + m) = nI (l ++ flt u.1).length → Rj γ mX12_reads 8 0 0 Post (21, [some (.ref 100), some (.int (nI (m + 1))), none], [], (SS b c), Z, J, 0, 0)) : Rj γ mX12_reads 8 0 0 Post (95, [some (.ref 100), some (.int (nI m)), some (.int a)], [], (SS b c), Y, J, 0, 0) := by
  have c16 : (nI (16 + m)).toNatClampNeg = 16 + m := nI_clamp (by omega)
  rcases hd with ⟨k3, hres⟩ | ⟨k3, r2, ha, h5⟩
  · refine r_run okX12_reads 2 (cs := []) (σ' := (97, [some (.ref 100), some (.int (nI m)), some (.int a)], [.int 3, .ref 100], (SS b c), Y, J, 0, 0)) rfl trivial ?_
    refine r_callV okX12_reads okX12_isWord [.int 3] [] 100 rfl rfl rfl kkX12_isWord rfl rfl (by decide) rfl rfl rfl (by decide) ⟨Nat.le_refl _, Nat.le_refl _⟩ (Nat.le_of_ble_eq_true rfl) (c_isWord0 γ hP 3 (by decide) rfl k3) (fun v1 S1 I1 J1 hp => ?_)
    obtain ⟨rfl, rfl, rfl, rfl⟩ := hp
    show Rj _ _ _ _ _ _ (100, [some (.ref 100), some (.int (nI m)), some (.int a)], [.int 0], (SS b c), Y, J, 0, 0)
    refine r_ifc okX12_reads rfl (fun (h100 : ¬ (0 : Int32) = (0 : Int32)) => ?_) (fun h1000 => ?_)
    · exact absurd h100 (by decide)
    · have h100 : (0 : Int32) = (0 : Int32) := Classical.not_not.mp h1000
      refine r_run okX12_reads 2 (cs := []) (σ' := (105, [some (.ref 100), some (.int (nI m)), some (.int a)], [.int 1, .ref 100], (SS b c), Y, J, 0, 0)) rfl trivial ?_
      refine r_callV okX12_reads okX12_fails [.int 1] [] 100 rfl rfl rfl kkX12_fails rfl rfl (by decide) rfl rfl rfl (by decide) ⟨Nat.le_refl _, Nat.le_refl _⟩ (Nat.le_of_ble_eq_true rfl) (c_fails γ 1) (fun v1 S1 I1 J1 hp => ?_)
      obtain ⟨rfl, rfl, ⟨X1, rfl, f1, e1, e2⟩, rfl⟩ := hp
      show Rj _ _ _ _ _ _ (108, [some (.ref 100), some (.int (nI m)), some (.int a)], [.int (-1)], (SS b c), X1, J, 0, 0)
      refine r_iret okX12_reads rfl rfl rfl (Nat.le_refl _) (Nat.le_refl _) ?_
      exact KF (1, q.2) X1 hres (fP_M (fF_P f1)) e1 (e2.trans hP.2.2.2.2.2.1)
  · refine r_run okX12_reads 2 (cs := []) (σ' := (97, [some (.ref 100), some (.int (nI m)), some (.int a)], [.int 3, .ref 100], (SS b c), Y, J, 0, 0)) rfl trivial ?_
    refine r_callV okX12_reads okX12_isWord [.int 3] [] 100 rfl rfl rfl kkX12_isWord rfl rfl (by decide) rfl rfl rfl (by decide) ⟨Nat.le_refl _, Nat.le_refl _⟩ (Nat.le_of_ble_eq_true rfl) (c_isWord1 γ hP 3 (by decide) rfl k3) (fun v1 S1 I1 J1 hp => ?_)
    obtain ⟨rfl, rfl, rfl, rfl⟩ := hp
    show Rj _ _ _ _ _ _ (100, [some (.ref 100), some (.int (nI m)), some (.int a)], [.int 1], (SS b c), Y, J, 0, 0)
    refine r_ifc okX12_reads rfl (fun (h100 : ¬ (1 : Int32) = (0 : Int32)) => ?_) (fun h1000 => ?_)
    · refine r_run okX12_reads 1 (cs := []) (σ' := (110, [some (.ref 100), some (.int (nI m)), some (.int a)], [.ref 100], (SS b c), Y, J, 0, 0)) rfl trivial ?_
      refine r_callV okX12_reads okX12_next [] [] 100 rfl rfl rfl kkX12_next rfl rfl (by decide) rfl rfl rfl (by decide) ⟨Nat.le_refl _, Nat.le_refl _⟩ (Nat.le_of_ble_eq_true rfl) (c_nextT γ hT hP (by rw [k3]; decide)) (fun v1 S1 I1 J1 hp => ?_)
      obtain ⟨rfl, rfl, ⟨X1, rfl, f1, p1⟩, rfl⟩ := hp
      have o1 := Out_4 f1 hO
      have em1 := o1.1
      show Rj _ _ _ _ _ _ (113, [some (.ref 100), some (.int (nI m)), some (.int a)], [], (SS b c), X1, J, 0, 0)
      refine r_run okX12_reads 8 (cs := [vp_in (16 + (nI m)) 32]) (σ' := (126, [some (.ref 100), some (.int (nI m)), some (.int a)], [], (SS b c), (upI X1 122 ((16 + (nI m)).toNatClampNeg) (X1 100 36)), J, 0, 0)) rfl ⟨(by rw [i16]; exact vin (by omega) (by decide)), trivial⟩ ?_
      simp only [i16, c16, em1]
      show Rj _ _ _ _ _ _ (126, [some (.ref 100), some (.int (nI m)), some (.int a)], [], (SS b c), (upI X1 122 (16 + m) (nI l.length)), J, 0, 0)
      refine r_weak (L' := [some (.ref 100), some (.int (nI m)), some (.int a)]) ⟨rfl, rfl, rfl, trivial⟩ ?_
      have p1u : PSt T n (upI X1 122 (16 + m) (nI l.length)) (q.2 + 1) := PSt_L (up_L (Or.inr (Or.inr (Or.inl rfl)))) p1
      have o1u : Out (upI X1 122 (16 + m) (nI l.length)) l := Out_L (up_L (Or.inr (Or.inr (Or.inl rfl)))) o1
      have op1 : (upI X1 122 (16 + m) (nI l.length)) 100 37 = 0 := (f1 100 37 rfl).trans hop
      have fu : fr (qM m) Y (upI X1 122 (16 + m) (nI l.length)) := fr_t (fP_M (f4_P f1)) (fL_M (up_L (Or.inr (Or.inr (Or.inl rfl)))))
      rcases h5 with ⟨e, rfl, hres⟩ | ⟨u, rfl, hs⟩
      · refine r_run okX12_reads 1 (cs := []) (σ' := (127, [some (.ref 100), some (.int (nI m)), some (.int a)], [.ref 100], (SS b c), (upI X1 122 (16 + m) (nI l.length)), J, 0, 0)) rfl trivial ?_
        refine r_callV okX12_reads okX12_readAny [] [] 100 rfl rfl rfl kkX12_readAny rfl rfl (by decide) rfl rfl rfl (by decide) ⟨Nat.le_refl _, Nat.le_refl _⟩ (Nat.le_of_ble_eq_true rfl) (ct_FA γ rfl (c_readAny γ hT p1u o1u (by omega) op1 (.inl e) ha)) (fun v1 S1 I1 J1 hp => ?_)
        obtain ⟨rfl, rfl, ⟨X2, rfl, f2, e1, e2⟩, rfl⟩ := hp
        show Rj _ _ _ _ _ _ (130, [some (.ref 100), some (.int (nI m)), some (.int a)], [.int (-1)], (SS b c), X2, J, 0, 0)
        refine r_run okX12_reads 1 (cs := []) (σ' := (131, [some (.ref 100), some (.int (nI m)), some (.int a)], [.int (-1), .int (-1)], (SS b c), X2, J, 0, 0)) rfl trivial ?_
        refine r_icmp okX12_reads rfl (fun (h131 : ¬ ((-1) : Int32) = ((-1) : Int32)) => ?_) (fun h1310 => ?_)
        · exact absurd h131 (by decide)
        · have h131 : ((-1) : Int32) = ((-1) : Int32) := Classical.not_not.mp h1310
          refine r_run okX12_reads 1 (cs := []) (σ' := (135, [some (.ref 100), some (.int (nI m)), some (.int a)], [.int (-1)], (SS b c), X2, J, 0, 0)) rfl trivial ?_
          refine r_iret okX12_reads rfl rfl rfl (Nat.le_refl _) (Nat.le_refl _) ?_
          exact KF e X2 hres (fr_t fu (fP_M f2)) e1 e2
      · refine r_run okX12_reads 1 (cs := []) (σ' := (127, [some (.ref 100), some (.int (nI m)), some (.int a)], [.ref 100], (SS b c), (upI X1 122 (16 + m) (nI l.length)), J, 0, 0)) rfl trivial ?_
        refine r_callV okX12_reads okX12_readAny [] [] 100 rfl rfl rfl kkX12_readAny rfl rfl (by decide) rfl rfl rfl (by decide) ⟨Nat.le_refl _, Nat.le_refl _⟩ (Nat.le_of_ble_eq_true rfl) (ct_SA γ rfl (c_readAny γ hT p1u o1u (by omega) op1 (.inr u) ha)) (fun v1 S1 I1 J1 hp => ?_)
        obtain ⟨rfl, rfl, ⟨X2, rfl, f2, p2, o2, op2⟩, rfl⟩ := hp
        show Rj _ _ _ _ _ _ (130, [some (.ref 100), some (.int (nI m)), some (.int a)], [.int 0], (SS b c), X2, J, 0, 0)
        refine r_run okX12_reads 1 (cs := []) (σ' := (131, [some (.ref 100), some (.int (nI m)), some (.int a)], [.int (-1), .int 0], (SS b c), X2, J, 0, 0)) rfl trivial ?_
        refine r_icmp okX12_reads rfl (fun (h131 : ¬ (0 : Int32) = ((-1) : Int32)) => ?_) (fun h1310 => ?_)
        · have hql := An_len (fun i q => Cn_len) ha
          have em2 := o2.1
          have p2u : PSt T n (upI X2 123 (16 + m) (nI (l ++ flt u.1).length)) u.2 := PSt_L (up_L (Or.inr (Or.inr (Or.inr rfl)))) p2
          have o2u : Out (upI X2 123 (16 + m) (nI (l ++ flt u.1).length)) (l ++ flt u.1) := Out_L (up_L (Or.inr (Or.inr (Or.inr rfl)))) o2
          have f2u : fr (qM m) Y (upI X2 123 (16 + m) (nI (l ++ flt u.1).length)) := fr_t fu (fr_t (fP_M f2) (fL_M (up_L (Or.inr (Or.inr (Or.inr rfl))))))
          rcases hs with ⟨k59, hres⟩ | ⟨k59, hk⟩
          · refine r_run okX12_reads 14 (cs := [vp_in (16 + (nI m)) 32]) (σ' := (156, [some (.ref 100), some (.int ((nI m) + 1)), some (.int a)], [.int 59, .ref 100], (SS b c), (upI X2 123 ((16 + (nI m)).toNatClampNeg) (X2 100 36)), J, 0, 0)) rfl ⟨(by rw [i16]; exact vin (by omega) (by decide)), trivial⟩ ?_
            simp only [i16, c16, em2, nI_eq1]
            show Rj _ _ _ _ _ _ (156, [some (.ref 100), some (.int (nI (m + 1))), some (.int a)], [.int 59, .ref 100], (SS b c), (upI X2 123 (16 + m) (nI (l ++ flt u.1).length)), J, 0, 0)
            refine r_callV okX12_reads okX12_isSign [.int 59] [] 100 rfl rfl rfl kkX12_isSign rfl rfl (by decide) rfl rfl rfl (by decide) ⟨Nat.le_refl _, Nat.le_refl _⟩ (Nat.le_of_ble_eq_true rfl) (c_isSign0 γ p2u 59 rfl k59) (fun v1 S1 I1 J1 hp => ?_)
            obtain ⟨rfl, rfl, rfl, rfl⟩ := hp
            show Rj _ _ _ _ _ _ (159, [some (.ref 100), some (.int (nI (m + 1))), some (.int a)], [.int 0], (SS b c), (upI X2 123 (16 + m) (nI (l ++ flt u.1).length)), J, 0, 0)
            refine r_ifc okX12_reads rfl (fun (h159 : ¬ (0 : Int32) = (0 : Int32)) => ?_) (fun h1590 => ?_)
            · exact absurd h159 (by decide)
            · have h159 : (0 : Int32) = (0 : Int32) := Classical.not_not.mp h1590
              refine r_run okX12_reads 2 (cs := []) (σ' := (164, [some (.ref 100), some (.int (nI (m + 1))), some (.int a)], [.int 1, .ref 100], (SS b c), (upI X2 123 (16 + m) (nI (l ++ flt u.1).length)), J, 0, 0)) rfl trivial ?_
              refine r_callV okX12_reads okX12_fails [.int 1] [] 100 rfl rfl rfl kkX12_fails rfl rfl (by decide) rfl rfl rfl (by decide) ⟨Nat.le_refl _, Nat.le_refl _⟩ (Nat.le_of_ble_eq_true rfl) (c_fails γ 1) (fun v1 S1 I1 J1 hp => ?_)
              obtain ⟨rfl, rfl, ⟨X3, rfl, f3, e1, e2⟩, rfl⟩ := hp
              show Rj _ _ _ _ _ _ (167, [some (.ref 100), some (.int (nI (m + 1))), some (.int a)], [.int (-1)], (SS b c), X3, J, 0, 0)
              refine r_iret okX12_reads rfl rfl rfl (Nat.le_refl _) (Nat.le_refl _) ?_
              exact KF (1, u.2) X3 hres (fr_t f2u (fP_M (fF_P f3))) e1 (e2.trans p2u.2.2.2.2.2.1)
          · refine r_run okX12_reads 14 (cs := [vp_in (16 + (nI m)) 32]) (σ' := (156, [some (.ref 100), some (.int ((nI m) + 1)), some (.int a)], [.int 59, .ref 100], (SS b c), (upI X2 123 ((16 + (nI m)).toNatClampNeg) (X2 100 36)), J, 0, 0)) rfl ⟨(by rw [i16]; exact vin (by omega) (by decide)), trivial⟩ ?_
            simp only [i16, c16, em2, nI_eq1]
            show Rj _ _ _ _ _ _ (156, [some (.ref 100), some (.int (nI (m + 1))), some (.int a)], [.int 59, .ref 100], (SS b c), (upI X2 123 (16 + m) (nI (l ++ flt u.1).length)), J, 0, 0)
            refine r_callV okX12_reads okX12_isSign [.int 59] [] 100 rfl rfl rfl kkX12_isSign rfl rfl (by decide) rfl rfl rfl (by decide) ⟨Nat.le_refl _, Nat.le_refl _⟩ (Nat.le_of_ble_eq_true rfl) (c_isSign1 γ p2u 59 rfl k59) (fun v1 S1 I1 J1 hp => ?_)
            obtain ⟨rfl, rfl, rfl, rfl⟩ := hp
            show Rj _ _ _ _ _ _ (159, [some (.ref 100), some (.int (nI (m + 1))), some (.int a)], [.int 1], (SS b c), (upI X2 123 (16 + m) (nI (l ++ flt u.1).length)), J, 0, 0)
            refine r_ifc okX12_reads rfl (fun (h159 : ¬ (1 : Int32) = (0 : Int32)) => ?_) (fun h1590 => ?_)
            · refine r_run okX12_reads 1 (cs := []) (σ' := (169, [some (.ref 100), some (.int (nI (m + 1))), some (.int a)], [.ref 100], (SS b c), (upI X2 123 (16 + m) (nI (l ++ flt u.1).length)), J, 0, 0)) rfl trivial ?_
              refine r_callV okX12_reads okX12_next [] [] 100 rfl rfl rfl kkX12_next rfl rfl (by decide) rfl rfl rfl (by decide) ⟨Nat.le_refl _, Nat.le_refl _⟩ (Nat.le_of_ble_eq_true rfl) (c_nextT γ hT p2u (by rw [k59]; decide)) (fun v1 S1 I1 J1 hp => ?_)
              obtain ⟨rfl, rfl, ⟨X3, rfl, f3, p3⟩, rfl⟩ := hp
              show Rj _ _ _ _ _ _ (172, [some (.ref 100), some (.int (nI (m + 1))), some (.int a)], [], (SS b c), X3, J, 0, 0)
              refine r_run okX12_reads 1 (cs := []) (σ' := (21, [some (.ref 100), some (.int (nI (m + 1))), some (.int a)], [], (SS b c), X3, J, 0, 0)) rfl trivial ?_
              refine r_weak (L' := [some (.ref 100), some (.int (nI (m + 1))), none]) ⟨rfl, rfl, trivial⟩ ?_
              have q3 : ∀ x, X3 x (16 + m) = (upI X2 123 (16 + m) (nI (l ++ flt u.1).length)) x (16 + m) ∨ x = 100 := fun x => by
                by_cases hx : x = 100
                · exact Or.inr hx
                · exact Or.inl (f3 x _ (by unfold q4; rw [beq_false_of_ne hx]; rfl))
              have g : ∀ x, ¬ x = 100 → X3 x (16 + m) = (upI X2 123 (16 + m) (nI (l ++ flt u.1).length)) x (16 + m) := fun x hx => (q3 x).resolve_right hx
              have h2 : ∀ x, ¬ x = 100 → ¬ x = 124 → ¬ x = 125 → ¬ x = 126 → X2 x (16 + m) = (upI X1 122 (16 + m) (nI l.length)) x (16 + m) := fun x y1 y2 y3 y4 => f2 x _ (by unfold qP q4 qE qF; rw [beq_false_of_ne y1, beq_false_of_ne y2, beq_false_of_ne y3, beq_false_of_ne y4]; rfl)
              have h1 : ∀ x, ¬ x = 100 → X1 x (16 + m) = Y x (16 + m) := fun x y1 => f1 x _ (by unfold q4; rw [beq_false_of_ne y1]; rfl)
              refine KS u X3 hk (fr_t f2u (fP_M (f4_P f3))) p3 (Out_4 f3 o2u) (by rw [List.length_append]; omega) ((f3 100 37 rfl).trans op2) ?_ ?_ ?_ ?_
              · exact ((g 120 (by decide)).trans (h2 120 (by decide) (by decide) (by decide) (by decide))).trans (h1 120 (by decide))
              · exact ((g 121 (by decide)).trans (h2 121 (by decide) (by decide) (by decide) (by decide))).trans (h1 121 (by decide))
              · refine ((g 122 (by decide)).trans (h2 122 (by decide) (by decide) (by decide) (by decide))).trans ?_
                show (if 16 + m = 16 + m then _ else _) = _
                rw [if_pos rfl]
              · refine (g 123 (by decide)).trans ?_
                show (if 16 + m = 16 + m then _ else _) = _
                rw [if_pos rfl]
            · have h159 : (1 : Int32) = (0 : Int32) := Classical.not_not.mp h1590
              exact absurd h159 (by decide)
        · have h131 : (0 : Int32) = ((-1) : Int32) := Classical.not_not.mp h1310
          exact absurd h131 (by decide)
    · have h100 : (1 : Int32) = (0 : Int32) := Classical.not_not.mp h1000
      exact absurd h100 (by decide)
