/-! ===== the office reads: codes, tokens, units, sums ===== -/
def q95 (a b : Nat) : Bool := a == 95 && (b == 6 || (b == 7 || (b == 8 || b == 9)))
def qA (A a b : Nat) : Bool := (a == A && b == 7) || (a == A + 1 || a == A + 2)
def qX (A a b : Nat) : Bool := q95 a b || qA A a b
theorem f9_X {A : Nat} {X Y : AI} (h : fr q95 X Y) : fr (qX A) X Y := fr_m (fun a b z => by unfold qX at z; rw [Bool.or_eq_false_iff] at z; exact z.1) h
theorem fA_X {A : Nat} {X Y : AI} (h : fr (qA A) X Y) : fr (qX A) X Y := fr_m (fun a b z => by unfold qX at z; rw [Bool.or_eq_false_iff] at z; exact z.2) h
def Tkn (T : Nat → Int32) (n N : Nat) (X : AI) : Prop := N ≤ 800 ∧ kK T n N = 17 ∧ (∀ i, i ≤ N → X 97 i = kK T n i ∧ X 99 i = nI (psN T n i)) ∧ ∀ i, i < N → ¬ kK T n i = 17 ∧ (kK T n i = 16 → X 98 i = kV T n i) ∧ (rg 16 (kK T n i) → X 98 i = 0)
def PsO (T : Nat → Int32) (n N : Nat) (X : AI) (i : Nat) : Prop := i ≤ N ∧ X 95 6 = nI i ∧ X 95 7 = kK T n i ∧ X 95 8 = 0 ∧ X 95 9 = -1
def OuO (X : AI) (A : Nat) (l : Cd) : Prop := X A 7 = nI l.length ∧ cdT X A 0 l
def OuF (X : AI) (A : Nat) : Prop := ∃ m : Nat, m ≤ 800 ∧ X A 7 = nI m
def FlO (T : Nat → Int32) (n : Nat) (X : AI) (e : Int32 × Nat) : Prop := X 95 8 = e.1 ∧ X 95 9 = nI (psN T n e.2)
def RsO (T : Nat → Int32) (n N A : Nat) (X : AI) (l : Cd) (res : PR) (r : Option Value) (X' : AI) : Prop := fr (qX A) X X' ∧ match res with
  | .inl e => some (Value.int 0) = r ∧ OuF X' A ∧ FlO T n X' e
  | .inr q => some (Value.int 1) = r ∧ PsO T n N X' q.2 ∧ OuO X' A (l ++ q.1)
theorem qX_o {A : Nat} (hA : A = 79 ∨ A = 87) {a : Nat} (ha : 96 ≤ a) (b : Nat) : qX A a b = false := by
  unfold qX q95 qA
  rw [show (a == 95) = false from beq_eq_false_iff_ne.mpr (by omega), show (a == A) = false from beq_eq_false_iff_ne.mpr (by omega), show (a == A + 1) = false from beq_eq_false_iff_ne.mpr (by omega), show (a == A + 2) = false from beq_eq_false_iff_ne.mpr (by omega)]; rfl
theorem Tkn_k {T : Nat → Int32} {n N A : Nat} {X Y : AI} (hA : A = 79 ∨ A = 87) (h : fr (qX A) X Y) (hT : Tkn T n N X) : Tkn T n N Y := by
  unfold Tkn
  rw [fr_c h 97 (qX_o hA (by decide)), fr_c h 98 (qX_o hA (by decide)), fr_c h 99 (qX_o hA (by decide))]; exact hT
theorem qA_95 {A : Nat} (hA : A = 79 ∨ A = 87) (b : Nat) : qA A 95 b = false := by rcases hA with rfl | rfl <;> rfl
theorem PsO_k {T : Nat → Int32} {n N A i : Nat} {X Y : AI} (hA : A = 79 ∨ A = 87) (h : fr (qA A) X Y) (hP : PsO T n N X i) : PsO T n N Y i := by
  unfold PsO; rw [fr_c h 95 (qA_95 hA)]; exact hP
theorem FlO_k {T : Nat → Int32} {n A : Nat} {e : Int32 × Nat} {X Y : AI} (hA : A = 79 ∨ A = 87) (h : fr (qA A) X Y) (hP : FlO T n X e) : FlO T n Y e := by
  unfold FlO; rw [fr_c h 95 (qA_95 hA)]; exact hP
theorem cdT_lt {X Y : AI} {A : Nat} : ∀ {c : Cd} {k : Nat}, (∀ j, k ≤ j → j < k + c.length → Y (A + 1) j = X (A + 1) j ∧ Y (A + 2) j = X (A + 2) j) → cdT X A k c → cdT Y A k c
  | [], _, _, _ => trivial
  | p :: c, k, h, q => ⟨(h k (Nat.le_refl _) (by simp)).1.trans q.1, (h k (Nat.le_refl _) (by simp)).2.trans q.2.1, cdT_lt (fun j h1 h2 => h j (by omega) (by simp; omega)) q.2.2⟩
theorem cdT_ap {X : AI} {A : Nat} : ∀ {c e : Cd} {k : Nat}, cdT X A k c → cdT X A (k + c.length) e → cdT X A k (c ++ e)
  | [], _, _, _, h => h
  | p :: c, e, k, h, q => ⟨h.1, h.2.1, cdT_ap h.2.2 (by rw [show k + 1 + c.length = k + (p :: c).length by simp; omega]; exact q)⟩
theorem cdT_sp {X : AI} {A : Nat} : ∀ {c e : Cd} {k : Nat}, cdT X A k (c ++ e) → cdT X A k c ∧ cdT X A (k + c.length) e
  | [], _, _, h => ⟨trivial, h⟩
  | p :: c, e, k, h => ⟨⟨h.1, h.2.1, (cdT_sp h.2.2).1⟩, by have := (cdT_sp h.2.2).2; rw [show k + (p :: c).length = k + 1 + c.length by simp; omega]; exact this⟩
theorem OuO_9 {X Y : AI} {A : Nat} {l : Cd} (hA : A = 79 ∨ A = 87) (h : fr q95 X Y) (hO : OuO X A l) : OuO Y A l := by
  have e : ∀ a, a ≠ 95 → Y a = X a := fun a q => fr_c h a (fun b => by unfold q95; rw [show (a == 95) = false from beq_eq_false_iff_ne.mpr q]; rfl)
  exact ⟨by rw [e A (by omega)]; exact hO.1, cdT_k (e (A + 1) (by omega)) (e (A + 2) (by omega)) hO.2⟩
theorem OuF_9 {X Y : AI} {A : Nat} (hA : A = 79 ∨ A = 87) (h : fr q95 X Y) (hO : OuF X A) : OuF Y A := by
  obtain ⟨m, h1, h2⟩ := hO
  exact ⟨m, h1, by rw [fr_c h A (fun b => by unfold q95; rw [show (A == 95) = false from beq_eq_false_iff_ne.mpr (by omega)]; rfl)]; exact h2⟩
theorem OuO_F {X : AI} {A : Nat} {l : Cd} (h : OuO X A l) (hl : l.length ≤ 800) : OuF X A := ⟨l.length, hl, h.1⟩
theorem OuO_add {X : AI} {A : Nat} {l : Cd} {p : Int32 × Int32} {x y : Int32} (h : OuO X A l) (hp : tkO p = (x, y)) : fr (qA A) X (upI (upI (upI X (A + 1) l.length x) (A + 2) l.length y) A 7 (nI l.length + 1)) ∧ OuO (upI (upI (upI X (A + 1) l.length x) (A + 2) l.length y) A 7 (nI l.length + 1)) A (l ++ [p]) := by
  have e1 : ∀ j, upI (upI (upI X (A + 1) l.length x) (A + 2) l.length y) A 7 (nI l.length + 1) (A + 1) j = if j = l.length then x else X (A + 1) j := fun j => by
    rw [upI_ne (show A + 1 ≠ A by omega), upI_ne (show A + 1 ≠ A + 2 by omega)]; simp [upI]
  have e2 : ∀ j, upI (upI (upI X (A + 1) l.length x) (A + 2) l.length y) A 7 (nI l.length + 1) (A + 2) j = if j = l.length then y else X (A + 2) j := fun j => by
    rw [upI_ne (show A + 2 ≠ A by omega)]; simp only [upI, if_true]; rw [if_neg (show ¬ A + 2 = A + 1 by omega)]
  refine ⟨fr_t (fr_t (up_q (by unfold qA; simp)) (up_q (by unfold qA; simp))) (up_q (by unfold qA; simp)), ?_, ?_⟩
  · rw [upI_s, List.length_append]; exact (nI_succ _).symm
  · refine cdT_ap (cdT_lt (fun j h1 h2 => ?_) h.2) ⟨?_, ?_, trivial⟩
    · rw [e1, e2, if_neg (by omega), if_neg (by omega)]; exact ⟨rfl, rfl⟩
    · rw [e1, if_pos (by omega), hp]
    · rw [e2, if_pos (by omega), hp]
theorem uR_l1 {T : Nat → Int32} {n i : Nat} {q : Cd × Nat} (h : uR T n i = .inr q) : q.2 = i + 1 ∧ q.1.length = 1 := by
  unfold uR at h
  split at h
  · cases h; exact ⟨rfl, rfl⟩
  · split at h
    · cases h; exact ⟨rfl, rfl⟩
    · cases h
theorem len_flt : ∀ c : Cd, c.length ≤ (flt c).length
  | [] => Nat.zero_le _
  | p :: c => by have := len_flt c; unfold flt; split <;> simp <;> omega
theorem kK_lt {T : Nat → Int32} {n N i : Nat} {X : AI} (hT : Tkn T n N X) (hi : i ≤ N) (h : ¬ kK T n i = 17) : i < N := by
  have : ¬ i = N := fun e => h (by rw [e]; exact hT.2.1)
  omega
theorem sub7 (x : Int32) : 7 + (x - 7) = x := by rw [Int32.add_comm, Int32.sub_add_cancel]
def dR (T : Nat → Int32) (n i : Nat) : PR := if kK T n i = 16 then (if kV T n i = 0 then .inl (2, i) else .inr ([(5, kV T n i)], i + 1)) else .inl (1, i)
def rkB (v : Int32) : Bool := decide (v = 43) || (decide (v = 45) || (decide (v = 42) || decide (v = 47)))
def wtk : Option Int32 → Int32
  | none => 18
  | some o => if o = 2 then 43 else 45
theorem b_rk43 (γ : GE) {S : List Sh} {I : AI} {J : AJ} : Ct γ mX5_isReckoning 0 0 0 [.int 43] S I J (rI 1 S I J) := by
  refine ct_of okX5_isReckoning (L := [some (.int 43)]) (Nat.le_of_ble_eq_true rfl) rfl ?_
  refine r_run okX5_isReckoning 2 (cs := []) (σ' := (3, [some (.int 43)], [.int 43, .int 43], S, I, J, 0, 0)) rfl trivial ?_
  refine r_icmp okX5_isReckoning rfl (fun (h3 : (43 : Int32) = (43 : Int32)) => ?_) (fun (h3 : ¬ (43 : Int32) = (43 : Int32)) => ?_)
  · refine r_run okX5_isReckoning 2 (cs := []) (σ' := (29, [some (.int 43)], [.int 1], S, I, J, 0, 0)) rfl trivial ?_
    refine r_iret okX5_isReckoning rfl rfl (by decide +kernel) (Nat.le_refl _) (Nat.le_refl _) ?_
    exact ⟨rfl, rfl, rfl, rfl⟩
  · exact absurd h3 (by decide)
theorem b_rk45 (γ : GE) {S : List Sh} {I : AI} {J : AJ} : Ct γ mX5_isReckoning 0 0 0 [.int 45] S I J (rI 1 S I J) := by
  refine ct_of okX5_isReckoning (L := [some (.int 45)]) (Nat.le_of_ble_eq_true rfl) rfl ?_
  refine r_run okX5_isReckoning 2 (cs := []) (σ' := (3, [some (.int 45)], [.int 43, .int 45], S, I, J, 0, 0)) rfl trivial ?_
  refine r_icmp okX5_isReckoning rfl (fun (h3 : (45 : Int32) = (43 : Int32)) => ?_) (fun (h3 : ¬ (45 : Int32) = (43 : Int32)) => ?_)
  · exact absurd h3 (by decide)
  · refine r_run okX5_isReckoning 2 (cs := []) (σ' := (9, [some (.int 45)], [.int 45, .int 45], S, I, J, 0, 0)) rfl trivial ?_
    refine r_icmp okX5_isReckoning rfl (fun (h9 : (45 : Int32) = (45 : Int32)) => ?_) (fun (h9 : ¬ (45 : Int32) = (45 : Int32)) => ?_)
    · refine r_run okX5_isReckoning 2 (cs := []) (σ' := (29, [some (.int 45)], [.int 1], S, I, J, 0, 0)) rfl trivial ?_
      refine r_iret okX5_isReckoning rfl rfl (by decide +kernel) (Nat.le_refl _) (Nat.le_refl _) ?_
      exact ⟨rfl, rfl, rfl, rfl⟩
    · exact absurd h9 (by decide)
theorem b_rk42 (γ : GE) {S : List Sh} {I : AI} {J : AJ} : Ct γ mX5_isReckoning 0 0 0 [.int 42] S I J (rI 1 S I J) := by
  refine ct_of okX5_isReckoning (L := [some (.int 42)]) (Nat.le_of_ble_eq_true rfl) rfl ?_
  refine r_run okX5_isReckoning 2 (cs := []) (σ' := (3, [some (.int 42)], [.int 43, .int 42], S, I, J, 0, 0)) rfl trivial ?_
  refine r_icmp okX5_isReckoning rfl (fun (h3 : (42 : Int32) = (43 : Int32)) => ?_) (fun (h3 : ¬ (42 : Int32) = (43 : Int32)) => ?_)
  · exact absurd h3 (by decide)
  · refine r_run okX5_isReckoning 2 (cs := []) (σ' := (9, [some (.int 42)], [.int 45, .int 42], S, I, J, 0, 0)) rfl trivial ?_
    refine r_icmp okX5_isReckoning rfl (fun (h9 : (42 : Int32) = (45 : Int32)) => ?_) (fun (h9 : ¬ (42 : Int32) = (45 : Int32)) => ?_)
    · exact absurd h9 (by decide)
    · refine r_run okX5_isReckoning 2 (cs := []) (σ' := (15, [some (.int 42)], [.int 42, .int 42], S, I, J, 0, 0)) rfl trivial ?_
      refine r_icmp okX5_isReckoning rfl (fun (h15 : (42 : Int32) = (42 : Int32)) => ?_) (fun (h15 : ¬ (42 : Int32) = (42 : Int32)) => ?_)
      · refine r_run okX5_isReckoning 2 (cs := []) (σ' := (29, [some (.int 42)], [.int 1], S, I, J, 0, 0)) rfl trivial ?_
        refine r_iret okX5_isReckoning rfl rfl (by decide +kernel) (Nat.le_refl _) (Nat.le_refl _) ?_
        exact ⟨rfl, rfl, rfl, rfl⟩
      · exact absurd h15 (by decide)
theorem b_rk47 (γ : GE) {S : List Sh} {I : AI} {J : AJ} : Ct γ mX5_isReckoning 0 0 0 [.int 47] S I J (rI 1 S I J) := by
  refine ct_of okX5_isReckoning (L := [some (.int 47)]) (Nat.le_of_ble_eq_true rfl) rfl ?_
  refine r_run okX5_isReckoning 2 (cs := []) (σ' := (3, [some (.int 47)], [.int 43, .int 47], S, I, J, 0, 0)) rfl trivial ?_
  refine r_icmp okX5_isReckoning rfl (fun (h3 : (47 : Int32) = (43 : Int32)) => ?_) (fun (h3 : ¬ (47 : Int32) = (43 : Int32)) => ?_)
  · exact absurd h3 (by decide)
  · refine r_run okX5_isReckoning 2 (cs := []) (σ' := (9, [some (.int 47)], [.int 45, .int 47], S, I, J, 0, 0)) rfl trivial ?_
    refine r_icmp okX5_isReckoning rfl (fun (h9 : (47 : Int32) = (45 : Int32)) => ?_) (fun (h9 : ¬ (47 : Int32) = (45 : Int32)) => ?_)
    · exact absurd h9 (by decide)
    · refine r_run okX5_isReckoning 2 (cs := []) (σ' := (15, [some (.int 47)], [.int 42, .int 47], S, I, J, 0, 0)) rfl trivial ?_
      refine r_icmp okX5_isReckoning rfl (fun (h15 : (47 : Int32) = (42 : Int32)) => ?_) (fun (h15 : ¬ (47 : Int32) = (42 : Int32)) => ?_)
      · exact absurd h15 (by decide)
      · refine r_run okX5_isReckoning 2 (cs := []) (σ' := (21, [some (.int 47)], [.int 47, .int 47], S, I, J, 0, 0)) rfl trivial ?_
        refine r_icmp okX5_isReckoning rfl (fun (h21 : ¬ (47 : Int32) = (47 : Int32)) => ?_) (fun h210 => ?_)
        · exact absurd h21 (by decide)
        · have h21 : (47 : Int32) = (47 : Int32) := Classical.not_not.mp h210
          refine r_run okX5_isReckoning 2 (cs := []) (σ' := (29, [some (.int 47)], [.int 1], S, I, J, 0, 0)) rfl trivial ?_
          refine r_iret okX5_isReckoning rfl rfl (by decide +kernel) (Nat.le_refl _) (Nat.le_refl _) ?_
          exact ⟨rfl, rfl, rfl, rfl⟩
theorem b_rkn (γ : GE) {S : List Sh} {I : AI} {J : AJ} {v : Int32} (k1 : ¬ v = 43) (k2 : ¬ v = 45) (k3 : ¬ v = 42) (k4 : ¬ v = 47) : Ct γ mX5_isReckoning 0 0 0 [.int v] S I J (rI 0 S I J) := by
  refine ct_of okX5_isReckoning (L := [some (.int v)]) (Nat.le_of_ble_eq_true rfl) rfl ?_
  refine r_run okX5_isReckoning 2 (cs := []) (σ' := (3, [some (.int v)], [.int 43, .int v], S, I, J, 0, 0)) rfl trivial ?_
  refine r_icmp okX5_isReckoning rfl (fun (h3 : v = (43 : Int32)) => ?_) (fun (h3 : ¬ v = (43 : Int32)) => ?_)
  · exact absurd h3 k1
  · refine r_run okX5_isReckoning 2 (cs := []) (σ' := (9, [some (.int v)], [.int 45, .int v], S, I, J, 0, 0)) rfl trivial ?_
    refine r_icmp okX5_isReckoning rfl (fun (h9 : v = (45 : Int32)) => ?_) (fun (h9 : ¬ v = (45 : Int32)) => ?_)
    · exact absurd h9 k2
    · refine r_run okX5_isReckoning 2 (cs := []) (σ' := (15, [some (.int v)], [.int 42, .int v], S, I, J, 0, 0)) rfl trivial ?_
      refine r_icmp okX5_isReckoning rfl (fun (h15 : v = (42 : Int32)) => ?_) (fun (h15 : ¬ v = (42 : Int32)) => ?_)
      · exact absurd h15 k3
      · refine r_run okX5_isReckoning 2 (cs := []) (σ' := (21, [some (.int v)], [.int 47, .int v], S, I, J, 0, 0)) rfl trivial ?_
        refine r_icmp okX5_isReckoning rfl (fun (h21 : ¬ v = (47 : Int32)) => ?_) (fun h210 => ?_)
        · refine r_run okX5_isReckoning 1 (cs := []) (σ' := (29, [some (.int v)], [.int 0], S, I, J, 0, 0)) rfl trivial ?_
          refine r_iret okX5_isReckoning rfl rfl (by decide +kernel) (Nat.le_refl _) (Nat.le_refl _) ?_
          exact ⟨rfl, rfl, rfl, rfl⟩
        · have h21 : v = (47 : Int32) := Classical.not_not.mp h210
          exact absurd h21 k4
theorem a_addN79 (γ : GE) {b : Bool} {X : AI} {J : AJ} (en : X 79 7 = 800) (x y : Int32) : Ct γ mX6_add 0 0 0 [.ref 79, .int x, .int y] (SS b true) X J (rI 0 (SS b true) X J) := by
  refine ct_of okX6_add (L := [some (.ref 79), some (.int x), some (.int y)]) (Nat.le_of_ble_eq_true rfl) rfl ?_
  refine r_run okX6_add 3 (cs := []) (σ' := (7, [some (.ref 79), some (.int x), some (.int y)], [.int 800, .int (X 79 7)], (SS b true), X, J, 0, 0)) rfl trivial ?_
  refine r_icmp okX6_add rfl (fun (h7 : (X 79 7) < (800 : Int32)) => ?_) (fun (h7 : ¬ (X 79 7) < (800 : Int32)) => ?_)
  · rw [en] at h7
    exact absurd h7 (by decide)
  · refine r_run okX6_add 1 (cs := []) (σ' := (11, [some (.ref 79), some (.int x), some (.int y)], [.int 0], (SS b true), X, J, 0, 0)) rfl trivial ?_
    refine r_iret okX6_add rfl rfl (by decide +kernel) (Nat.le_refl _) (Nat.le_refl _) ?_
    exact ⟨rfl, rfl, rfl, rfl⟩
theorem a_add79 (γ : GE) {b : Bool} {X : AI} {J : AJ} {l : Cd} (hO : OuO X 79 l) (hl : l.length < 800) {p : Int32 × Int32} {x y : Int32} (hp : tkO p = (x, y)) : Ct γ mX6_add 0 0 0 [.ref 79, .int x, .int y] (SS b true) X J (fun r S' I' J' => some (.int 1) = r ∧ (SS b true) = S' ∧ (fr (qA 79) X I' ∧ OuO I' 79 (l ++ [p])) ∧ J = J') :=
  ct_post (fun v S I J q => by obtain ⟨rfl, rfl, rfl, rfl⟩ := q; exact ⟨rfl, rfl, OuO_add hO hp, rfl⟩) (o_radd79 γ hl hO.1 x y)
theorem a_addF79 (γ : GE) {b : Bool} {X : AI} {J : AJ} (hO : OuF X 79) (x y : Int32) : Ct γ mX6_add 0 0 0 [.ref 79, .int x, .int y] (SS b true) X J (fun r S' I' J' => (∃ z, some (.int z) = r) ∧ (SS b true) = S' ∧ (fr (qA 79) X I' ∧ OuF I' 79) ∧ J = J') := by
  obtain ⟨m, h1, h2⟩ := hO
  by_cases h : m < 800
  · exact ct_post (fun v S I J q => by obtain ⟨rfl, rfl, rfl, rfl⟩ := q; exact ⟨⟨_, rfl⟩, rfl, ⟨fr_t (fr_t (up_q rfl) (up_q rfl)) (up_q rfl), m + 1, by omega, by rw [upI_s]; exact (nI_succ m).symm⟩, rfl⟩) (o_radd79 γ h h2 x y)
  · have e : m = 800 := by omega
    subst e
    exact ct_post (fun v S I J q => by obtain ⟨rfl, rfl, rfl, rfl⟩ := q; exact ⟨⟨_, rfl⟩, rfl, ⟨fr_r, 800, by omega, h2⟩, rfl⟩) (a_addN79 γ h2 x y)
theorem b_adv79 (γ : GE) {b : Bool} {X : AI} {J : AJ} {T : Nat → Int32} {n N i : Nat} (hT : Tkn T n N X) (hP : PsO T n N X i) (hi : i < N) : Ct γ mX5_advance 0 0 0 [.ref 95] (SS b true) X J (fun r S' I' J' => none = r ∧ (SS b true) = S' ∧ (fr q95 X I' ∧ PsO T n N I' (i + 1)) ∧ J = J') := by
  have ci : (nI i).toNatClampNeg = i := nI_clamp (by have := hT.1; have := hP.1; omega)
  have hN := hT.1
  have hiN := hP.1
  have e6 := hP.2.1
  have ci1 : (nI (i + 1)).toNatClampNeg = i + 1 := nI_clamp (by omega)
  have e97 := (hT.2.2.1 i hiN).1
  have e971 := (hT.2.2.1 (i + 1) hi).1
  refine ct_of okX5_advance (L := [some (.ref 95)]) (Nat.le_of_ble_eq_true rfl) rfl ?_
  refine r_run okX5_advance 3 (cs := []) (σ' := (7, [some (.ref 95)], [.int 800, .int (X 95 6)], (SS b true), X, J, 0, 0)) rfl trivial ?_
  simp only [e6]
  show Rj _ _ _ _ _ _ (7, [some (.ref 95)], [.int 800, .int (nI i)], (SS b true), X, J, 0, 0)
  refine r_icmp okX5_advance rfl (fun (h7 : (800 : Int32) ≤ (nI i)) => ?_) (fun (h7 : ¬ (800 : Int32) ≤ (nI i)) => ?_)
  · exact absurd h7 (nI_ge (b := 800) (by omega) (by decide))
  · refine r_run okX5_advance 6 (cs := [vp_in (X 95 6) 801]) (σ' := (21, [some (.ref 95)], [.int 17, .int (X 97 ((X 95 6).toNatClampNeg))], (SS b true), X, J, 0, 0)) rfl ⟨(by first | (rw [e6, ← nI_succ]; exact vin (by omega) (by decide)) | (rw [e6]; exact vin (by omega) (by decide))), trivial⟩ ?_
    simp only [e6, ci, e97]
    show Rj _ _ _ _ _ _ (21, [some (.ref 95)], [.int 17, .int (kK T n i)], (SS b true), X, J, 0, 0)
    refine r_icmp okX5_advance rfl (fun (h21 : (kK T n i) = (17 : Int32)) => ?_) (fun (h21 : ¬ (kK T n i) = (17 : Int32)) => ?_)
    · exact absurd h21 (hT.2.2.2 i hi).1
    · refine r_run okX5_advance 13 (cs := [vp_in ((X 95 6) + 1) 801]) (σ' := (47, [some (.ref 95)], [], (SS b true), (upI (upI X 95 6 ((X 95 6) + 1)) 95 7 (X 97 (((X 95 6) + 1).toNatClampNeg))), J, 0, 0)) rfl ⟨(by first | (rw [e6, ← nI_succ]; exact vin (by omega) (by decide)) | (rw [e6]; exact vin (by omega) (by decide))), trivial⟩ ?_
      simp only [e6]
      show Rj _ _ _ _ _ _ (47, [some (.ref 95)], [], (SS b true), (upI (upI X 95 6 ((nI i) + 1)) 95 7 (X 97 (((nI i) + 1).toNatClampNeg))), J, 0, 0)
      refine r_vret okX5_advance rfl rfl (Nat.le_refl _) (Nat.le_refl _) ?_
      exact ⟨rfl, rfl, ⟨fr_t (up_q rfl) (up_q rfl), by omega, by rw [upI_n (by decide), upI_s, nI_succ], by rw [upI_s, ← nI_succ, ci1]; exact e971, by rw [upI_n (by decide), upI_n (by decide)]; exact hP.2.2.2.1, by rw [upI_n (by decide), upI_n (by decide)]; exact hP.2.2.2.2⟩, rfl⟩
theorem b_ref79 (γ : GE) {b : Bool} {X : AI} {J : AJ} {T : Nat → Int32} {n N i : Nat} (hT : Tkn T n N X) (hP : PsO T n N X i) (v : Int32) : Ct γ mX5_refuse 0 0 0 [.ref 95, .int v] (SS b true) X J (fun r S' I' J' => some (.int 0) = r ∧ (SS b true) = S' ∧ (fr q95 X I' ∧ FlO T n I' (v, i)) ∧ J = J') := by
  have ci : (nI i).toNatClampNeg = i := nI_clamp (by have := hT.1; have := hP.1; omega)
  have hN := hT.1
  have hiN := hP.1
  have e6 := hP.2.1
  have e99 := (hT.2.2.1 i hiN).2
  refine ct_of okX5_refuse (L := [some (.ref 95), some (.int v)]) (Nat.le_of_ble_eq_true rfl) rfl ?_
  refine r_run okX5_refuse 11 (cs := [vp_in (X 95 6) 801]) (σ' := (19, [some (.ref 95), some (.int v)], [.int 0], (SS b true), (upI (upI X 95 8 v) 95 9 (X 99 ((X 95 6).toNatClampNeg))), J, 0, 0)) rfl ⟨(by first | (rw [e6]; exact vin (by omega) (by decide)) | exact vin (by omega) (by decide)), trivial⟩ ?_
  simp only [e6, ci, e99]
  show Rj _ _ _ _ _ _ (19, [some (.ref 95), some (.int v)], [.int 0], (SS b true), (upI (upI X 95 8 v) 95 9 (nI (psN T n i))), J, 0, 0)
  refine r_iret okX5_refuse rfl rfl (by decide +kernel) (Nat.le_refl _) (Nat.le_refl _) ?_
  exact ⟨rfl, rfl, ⟨fr_t (up_q rfl) (up_q rfl), upI_n (by decide) |>.trans upI_s, upI_s⟩, rfl⟩
theorem b_take179 (γ : GE) {b : Bool} {X : AI} {J : AJ} {T : Nat → Int32} {n N i : Nat} (hT : Tkn T n N X) (hP : PsO T n N X i) (hi : i < N) {v : Int32} (h : kK T n i = v) : Ct γ mX5_take 1 0 0 [.ref 95, .int v] (SS b true) X J (fun r S' I' J' => some (.int 1) = r ∧ (SS b true) = S' ∧ (fr q95 X I' ∧ PsO T n N I' (i + 1)) ∧ J = J') := by
  have e7 := hP.2.2.1
  refine ct_of okX5_take (L := [some (.ref 95), some (.int v)]) (Nat.le_of_ble_eq_true rfl) rfl ?_
  refine r_run okX5_take 3 (cs := []) (σ' := (5, [some (.ref 95), some (.int v)], [.int v, .int (X 95 7)], (SS b true), X, J, 0, 0)) rfl trivial ?_
  simp only [e7]
  show Rj _ _ _ _ _ _ (5, [some (.ref 95), some (.int v)], [.int v, .int (kK T n i)], (SS b true), X, J, 0, 0)
  refine r_icmp okX5_take rfl (fun (h5 : (kK T n i) = v) => ?_) (fun (h5 : ¬ (kK T n i) = v) => ?_)
  · refine r_run okX5_take 1 (cs := []) (σ' := (15, [some (.ref 95), some (.int v)], [.ref 95], (SS b true), X, J, 0, 0)) rfl trivial ?_
    refine r_callV okX5_take okX5_advance [] [] 95 rfl rfl rfl kkX5_advance rfl rfl (by decide) rfl rfl rfl (by decide) ⟨Nat.le_refl _, Nat.le_refl _⟩ (Nat.le_of_ble_eq_true rfl) (b_adv79 γ hT hP hi) (fun v1 S1 I1 J1 hp => ?_)
    obtain ⟨rfl, rfl, ⟨fXa, pXa⟩, rfl⟩ := hp
    obtain ⟨Xa, eXa⟩ : ∃ z, z = I1 := ⟨_, rfl⟩
    subst eXa
    show Rj _ _ _ _ _ _ (18, [some (.ref 95), some (.int v)], [], (SS b true), Xa, J, 0, 0)
    refine r_run okX5_take 1 (cs := []) (σ' := (19, [some (.ref 95), some (.int v)], [.int 1], (SS b true), Xa, J, 0, 0)) rfl trivial ?_
    refine r_iret okX5_take rfl rfl (by decide +kernel) (Nat.le_refl _) (Nat.le_refl _) ?_
    exact ⟨rfl, rfl, ⟨fXa, pXa⟩, rfl⟩
  · exact absurd h h5
theorem b_take079 (γ : GE) {b : Bool} {X : AI} {J : AJ} {T : Nat → Int32} {n N i : Nat} (hT : Tkn T n N X) (hP : PsO T n N X i) {v : Int32} (h : ¬ kK T n i = v) : Ct γ mX5_take 1 0 0 [.ref 95, .int v] (SS b true) X J (fun r S' I' J' => some (.int 0) = r ∧ (SS b true) = S' ∧ (fr q95 X I' ∧ FlO T n I' (1, i)) ∧ J = J') := by
  have e7 := hP.2.2.1
  refine ct_of okX5_take (L := [some (.ref 95), some (.int v)]) (Nat.le_of_ble_eq_true rfl) rfl ?_
  refine r_run okX5_take 3 (cs := []) (σ' := (5, [some (.ref 95), some (.int v)], [.int v, .int (X 95 7)], (SS b true), X, J, 0, 0)) rfl trivial ?_
  simp only [e7]
  show Rj _ _ _ _ _ _ (5, [some (.ref 95), some (.int v)], [.int v, .int (kK T n i)], (SS b true), X, J, 0, 0)
  refine r_icmp okX5_take rfl (fun (h5 : (kK T n i) = v) => ?_) (fun (h5 : ¬ (kK T n i) = v) => ?_)
  · exact absurd h5 h
  · refine r_run okX5_take 2 (cs := []) (σ' := (10, [some (.ref 95), some (.int v)], [.int 1, .ref 95], (SS b true), X, J, 0, 0)) rfl trivial ?_
    refine r_callV okX5_take okX5_refuse [.int 1] [] 95 rfl rfl rfl kkX5_refuse rfl rfl (by decide) rfl rfl rfl (by decide) ⟨Nat.le_refl _, Nat.le_refl _⟩ (Nat.le_of_ble_eq_true rfl) (b_ref79 γ hT hP 1) (fun v1 S1 I1 J1 hp => ?_)
    obtain ⟨rfl, rfl, ⟨fr1, fl1⟩, rfl⟩ := hp
    obtain ⟨Xr, eXr⟩ : ∃ z, z = I1 := ⟨_, rfl⟩
    subst eXr
    show Rj _ _ _ _ _ _ (13, [some (.ref 95), some (.int v)], [.int 0], (SS b true), Xr, J, 0, 0)
    refine r_iret okX5_take rfl rfl (by decide +kernel) (Nat.le_refl _) (Nat.le_refl _) ?_
    exact ⟨rfl, rfl, ⟨fr1, fl1⟩, rfl⟩
theorem b_unitN79 (γ : GE) {b : Bool} {X : AI} {J : AJ} {T : Nat → Int32} {n N i : Nat} {l : Cd} (hT : Tkn T n N X) (hP : PsO T n N X i) (hO : OuO X 79 l) (hl : l.length ≤ i) (h : kK T n i = 16) : Ct γ mX5_readUnit 1 0 0 [.ref 95] (SS b true) X J (fun r S' I' J' => (SS b true) = S' ∧ J = J' ∧ RsO T n N 79 X l (.inr ([(0, kV T n i)], i + 1)) r I') := by
  have ci : (nI i).toNatClampNeg = i := nI_clamp (by have := hT.1; have := hP.1; omega)
  have hN := hT.1
  have hiN := hP.1
  have e6 := hP.2.1
  have e7 : X 95 7 = 16 := hP.2.2.1.trans h
  have hi : i < N := kK_lt hT hiN (by rw [h]; decide)
  have e98 := (hT.2.2.2 i hi).2.1 h
  refine ct_of okX5_readUnit (L := [some (.ref 95)]) (Nat.le_of_ble_eq_true rfl) rfl ?_
  refine r_run okX5_readUnit 3 (cs := []) (σ' := (6, [some (.ref 95)], [.int 16, .int (X 95 7)], (SS b true), X, J, 0, 0)) rfl trivial ?_
  simp only [e7]
  show Rj _ _ _ _ _ _ (6, [some (.ref 95)], [.int 16, .int 16], (SS b true), X, J, 0, 0)
  refine r_icmp okX5_readUnit rfl (fun (h6 : (16 : Int32) = (16 : Int32)) => ?_) (fun (h6 : ¬ (16 : Int32) = (16 : Int32)) => ?_)
  · refine r_run okX5_readUnit 9 (cs := [vp_in (X 95 6) 801]) (σ' := (50, [some (.ref 95)], [.int (X 98 ((X 95 6).toNatClampNeg)), .int (X 95 7), .ref 79], (SS b true), X, J, 0, 0)) rfl ⟨(by first | (rw [e6]; exact vin (by omega) (by decide)) | exact vin (by omega) (by decide)), trivial⟩ ?_
    simp only [e7, e6, ci, e98]
    show Rj _ _ _ _ _ _ (50, [some (.ref 95)], [.int (kV T n i), .int 16, .ref 79], (SS b true), X, J, 0, 0)
    refine r_callV okX5_readUnit okX6_add [.int 16, .int (kV T n i)] [] 79 rfl rfl rfl kkX6_add rfl rfl (by decide) rfl rfl rfl (by decide) ⟨Nat.le_refl _, Nat.le_refl _⟩ (Nat.le_of_ble_eq_true rfl) (a_add79 γ hO (by omega) (p := (0, kV T n i)) (by first | rfl | assumption | (unfold tkO; rfl))) (fun v1 S1 I1 J1 hp => ?_)
    obtain ⟨rfl, rfl, ⟨fXa, oXa⟩, rfl⟩ := hp
    obtain ⟨Xa, eXa⟩ : ∃ z, z = I1 := ⟨_, rfl⟩
    subst eXa
    show Rj _ _ _ _ _ _ (53, [some (.ref 95)], [.int 1], (SS b true), Xa, J, 0, 0)
    refine r_run okX5_readUnit 2 (cs := []) (σ' := (55, [some (.ref 95)], [.ref 95], (SS b true), Xa, J, 0, 0)) rfl trivial ?_
    refine r_callV okX5_readUnit okX5_advance [] [] 95 rfl rfl rfl kkX5_advance rfl rfl (by decide) rfl rfl rfl (by decide) ⟨Nat.le_refl _, Nat.le_refl _⟩ (Nat.le_of_ble_eq_true rfl) (b_adv79 γ (Tkn_k (A := 79) (by decide) (fA_X fXa) hT) (PsO_k (by decide) fXa hP) hi) (fun v1 S1 I1 J1 hp => ?_)
    obtain ⟨rfl, rfl, ⟨fXb, pXb⟩, rfl⟩ := hp
    obtain ⟨Xb, eXb⟩ : ∃ z, z = I1 := ⟨_, rfl⟩
    subst eXb
    show Rj _ _ _ _ _ _ (58, [some (.ref 95)], [], (SS b true), Xb, J, 0, 0)
    refine r_run okX5_readUnit 1 (cs := []) (σ' := (59, [some (.ref 95)], [.int 1], (SS b true), Xb, J, 0, 0)) rfl trivial ?_
    refine r_iret okX5_readUnit rfl rfl (by decide +kernel) (Nat.le_refl _) (Nat.le_refl _) ?_
    exact ⟨rfl, rfl, fr_t (fA_X fXa) (f9_X fXb), rfl, pXb, OuO_9 (by decide) fXb oXa⟩
  · exact absurd h6 (by decide)
theorem b_unitA79 (γ : GE) {b : Bool} {X : AI} {J : AJ} {T : Nat → Int32} {n N i : Nat} {l : Cd} (hT : Tkn T n N X) (hP : PsO T n N X i) (hO : OuO X 79 l) (hl : l.length ≤ i) (h0 : ¬ kK T n i = 16) (h : inB (kK T n i) 7 15 = true) : Ct γ mX5_readUnit 1 0 0 [.ref 95] (SS b true) X J (fun r S' I' J' => (SS b true) = S' ∧ J = J' ∧ RsO T n N 79 X l (.inr ([(1, kK T n i - 7)], i + 1)) r I') := by
  have ci : (nI i).toNatClampNeg = i := nI_clamp (by have := hT.1; have := hP.1; omega)
  have hN := hT.1
  have hiN := hP.1
  have e6 := hP.2.1
  have e7 := hP.2.2.1
  have h7 := inB_t.mp h
  have hi : i < N := kK_lt hT hiN (fun z => by rw [z] at h; exact absurd h (by decide))
  have e98 := (hT.2.2.2 i hi).2.2 (rg_mono (inB_rg (n := 15) (by decide) (inB_t.mpr ⟨Int32.le_trans (by decide) h7.1, h7.2⟩)) (by decide))
  have ep : tkO (1, kK T n i - 7) = (kK T n i, 0) := by simp [tkO, sub7]
  refine ct_of okX5_readUnit (L := [some (.ref 95)]) (Nat.le_of_ble_eq_true rfl) rfl ?_
  refine r_run okX5_readUnit 3 (cs := []) (σ' := (6, [some (.ref 95)], [.int 16, .int (X 95 7)], (SS b true), X, J, 0, 0)) rfl trivial ?_
  simp only [e7]
  show Rj _ _ _ _ _ _ (6, [some (.ref 95)], [.int 16, .int (kK T n i)], (SS b true), X, J, 0, 0)
  refine r_icmp okX5_readUnit rfl (fun (h6 : (kK T n i) = (16 : Int32)) => ?_) (fun (h6 : ¬ (kK T n i) = (16 : Int32)) => ?_)
  · exact absurd h6 h0
  · refine r_run okX5_readUnit 3 (cs := []) (σ' := (15, [some (.ref 95)], [.int 7, .int (X 95 7)], (SS b true), X, J, 0, 0)) rfl trivial ?_
    simp only [e7]
    show Rj _ _ _ _ _ _ (15, [some (.ref 95)], [.int 7, .int (kK T n i)], (SS b true), X, J, 0, 0)
    refine r_icmp okX5_readUnit rfl (fun (h15 : (kK T n i) < (7 : Int32)) => ?_) (fun (h15 : ¬ (kK T n i) < (7 : Int32)) => ?_)
    · exact absurd h15 (Int32.not_lt.mpr h7.1)
    · refine r_run okX5_readUnit 3 (cs := []) (σ' := (24, [some (.ref 95)], [.int 15, .int (X 95 7)], (SS b true), X, J, 0, 0)) rfl trivial ?_
      simp only [e7]
      show Rj _ _ _ _ _ _ (24, [some (.ref 95)], [.int 15, .int (kK T n i)], (SS b true), X, J, 0, 0)
      refine r_icmp okX5_readUnit rfl (fun (h24 : (kK T n i) ≤ (15 : Int32)) => ?_) (fun (h24 : ¬ (kK T n i) ≤ (15 : Int32)) => ?_)
      · refine r_run okX5_readUnit 9 (cs := [vp_in (X 95 6) 801]) (σ' := (50, [some (.ref 95)], [.int (X 98 ((X 95 6).toNatClampNeg)), .int (X 95 7), .ref 79], (SS b true), X, J, 0, 0)) rfl ⟨(by first | (rw [e6]; exact vin (by omega) (by decide)) | exact vin (by omega) (by decide)), trivial⟩ ?_
        simp only [e7, e6, ci, e98]
        show Rj _ _ _ _ _ _ (50, [some (.ref 95)], [.int 0, .int (kK T n i), .ref 79], (SS b true), X, J, 0, 0)
        refine r_callV okX5_readUnit okX6_add [.int (kK T n i), .int 0] [] 79 rfl rfl rfl kkX6_add rfl rfl (by decide) rfl rfl rfl (by decide) ⟨Nat.le_refl _, Nat.le_refl _⟩ (Nat.le_of_ble_eq_true rfl) (a_add79 γ hO (by omega) (p := (1, kK T n i - 7)) (by first | rfl | assumption | (unfold tkO; rfl))) (fun v1 S1 I1 J1 hp => ?_)
        obtain ⟨rfl, rfl, ⟨fXa, oXa⟩, rfl⟩ := hp
        obtain ⟨Xa, eXa⟩ : ∃ z, z = I1 := ⟨_, rfl⟩
        subst eXa
        show Rj _ _ _ _ _ _ (53, [some (.ref 95)], [.int 1], (SS b true), Xa, J, 0, 0)
        refine r_run okX5_readUnit 2 (cs := []) (σ' := (55, [some (.ref 95)], [.ref 95], (SS b true), Xa, J, 0, 0)) rfl trivial ?_
        refine r_callV okX5_readUnit okX5_advance [] [] 95 rfl rfl rfl kkX5_advance rfl rfl (by decide) rfl rfl rfl (by decide) ⟨Nat.le_refl _, Nat.le_refl _⟩ (Nat.le_of_ble_eq_true rfl) (b_adv79 γ (Tkn_k (A := 79) (by decide) (fA_X fXa) hT) (PsO_k (by decide) fXa hP) hi) (fun v1 S1 I1 J1 hp => ?_)
        obtain ⟨rfl, rfl, ⟨fXb, pXb⟩, rfl⟩ := hp
        obtain ⟨Xb, eXb⟩ : ∃ z, z = I1 := ⟨_, rfl⟩
        subst eXb
        show Rj _ _ _ _ _ _ (58, [some (.ref 95)], [], (SS b true), Xb, J, 0, 0)
        refine r_run okX5_readUnit 1 (cs := []) (σ' := (59, [some (.ref 95)], [.int 1], (SS b true), Xb, J, 0, 0)) rfl trivial ?_
        refine r_iret okX5_readUnit rfl rfl (by decide +kernel) (Nat.le_refl _) (Nat.le_refl _) ?_
        exact ⟨rfl, rfl, fr_t (fA_X fXa) (f9_X fXb), rfl, pXb, OuO_9 (by decide) fXb oXa⟩
      · exact absurd h7.2 h24
theorem b_unit079 (γ : GE) {b : Bool} {X : AI} {J : AJ} {T : Nat → Int32} {n N i : Nat} {l : Cd} (hT : Tkn T n N X) (hP : PsO T n N X i) (hO : OuO X 79 l) (hl : l.length ≤ i) (h0 : ¬ kK T n i = 16) (h : inB (kK T n i) 7 15 = false) : Ct γ mX5_readUnit 1 0 0 [.ref 95] (SS b true) X J (fun r S' I' J' => (SS b true) = S' ∧ J = J' ∧ RsO T n N 79 X l (.inl (1, i)) r I') := by
  have ci : (nI i).toNatClampNeg = i := nI_clamp (by have := hT.1; have := hP.1; omega)
  have hN := hT.1
  have hiN := hP.1
  have e6 := hP.2.1
  have e7 := hP.2.2.1
  refine ct_of okX5_readUnit (L := [some (.ref 95)]) (Nat.le_of_ble_eq_true rfl) rfl ?_
  refine r_run okX5_readUnit 3 (cs := []) (σ' := (6, [some (.ref 95)], [.int 16, .int (X 95 7)], (SS b true), X, J, 0, 0)) rfl trivial ?_
  simp only [e7]
  show Rj _ _ _ _ _ _ (6, [some (.ref 95)], [.int 16, .int (kK T n i)], (SS b true), X, J, 0, 0)
  refine r_icmp okX5_readUnit rfl (fun (h6 : (kK T n i) = (16 : Int32)) => ?_) (fun (h6 : ¬ (kK T n i) = (16 : Int32)) => ?_)
  · exact absurd h6 h0
  · refine r_run okX5_readUnit 3 (cs := []) (σ' := (15, [some (.ref 95)], [.int 7, .int (X 95 7)], (SS b true), X, J, 0, 0)) rfl trivial ?_
    simp only [e7]
    show Rj _ _ _ _ _ _ (15, [some (.ref 95)], [.int 7, .int (kK T n i)], (SS b true), X, J, 0, 0)
    refine r_icmp okX5_readUnit rfl (fun (h15 : (kK T n i) < (7 : Int32)) => ?_) (fun (h15 : ¬ (kK T n i) < (7 : Int32)) => ?_)
    · refine r_run okX5_readUnit 2 (cs := []) (σ' := (29, [some (.ref 95)], [.int 1, .ref 95], (SS b true), X, J, 0, 0)) rfl trivial ?_
      refine r_callV okX5_readUnit okX5_refuse [.int 1] [] 95 rfl rfl rfl kkX5_refuse rfl rfl (by decide) rfl rfl rfl (by decide) ⟨Nat.le_refl _, Nat.le_refl _⟩ (Nat.le_of_ble_eq_true rfl) (b_ref79 γ hT hP 1) (fun v1 S1 I1 J1 hp => ?_)
      obtain ⟨rfl, rfl, ⟨fr1, fl1⟩, rfl⟩ := hp
      obtain ⟨Xr, eXr⟩ : ∃ z, z = I1 := ⟨_, rfl⟩
      subst eXr
      show Rj _ _ _ _ _ _ (32, [some (.ref 95)], [.int 0], (SS b true), Xr, J, 0, 0)
      refine r_iret okX5_readUnit rfl rfl (by decide +kernel) (Nat.le_refl _) (Nat.le_refl _) ?_
      exact ⟨rfl, rfl, f9_X fr1, rfl, OuF_9 (by decide) fr1 (OuO_F hO (by omega)), fl1⟩
    · refine r_run okX5_readUnit 3 (cs := []) (σ' := (24, [some (.ref 95)], [.int 15, .int (X 95 7)], (SS b true), X, J, 0, 0)) rfl trivial ?_
      simp only [e7]
      show Rj _ _ _ _ _ _ (24, [some (.ref 95)], [.int 15, .int (kK T n i)], (SS b true), X, J, 0, 0)
      refine r_icmp okX5_readUnit rfl (fun (h24 : (kK T n i) ≤ (15 : Int32)) => ?_) (fun (h24 : ¬ (kK T n i) ≤ (15 : Int32)) => ?_)
      · exact absurd (h.symm.trans (inB_t.mpr ⟨Int32.not_lt.mp h15, h24⟩)) (by decide)
      · refine r_run okX5_readUnit 2 (cs := []) (σ' := (29, [some (.ref 95)], [.int 1, .ref 95], (SS b true), X, J, 0, 0)) rfl trivial ?_
        refine r_callV okX5_readUnit okX5_refuse [.int 1] [] 95 rfl rfl rfl kkX5_refuse rfl rfl (by decide) rfl rfl rfl (by decide) ⟨Nat.le_refl _, Nat.le_refl _⟩ (Nat.le_of_ble_eq_true rfl) (b_ref79 γ hT hP 1) (fun v1 S1 I1 J1 hp => ?_)
        obtain ⟨rfl, rfl, ⟨fr1, fl1⟩, rfl⟩ := hp
        obtain ⟨Xr, eXr⟩ : ∃ z, z = I1 := ⟨_, rfl⟩
        subst eXr
        show Rj _ _ _ _ _ _ (32, [some (.ref 95)], [.int 0], (SS b true), Xr, J, 0, 0)
        refine r_iret okX5_readUnit rfl rfl (by decide +kernel) (Nat.le_refl _) (Nat.le_refl _) ?_
        exact ⟨rfl, rfl, f9_X fr1, rfl, OuF_9 (by decide) fr1 (OuO_F hO (by omega)), fl1⟩
theorem b_unit79 (γ : GE) {b : Bool} {X : AI} {J : AJ} {T : Nat → Int32} {n N i : Nat} {l : Cd} (hT : Tkn T n N X) (hP : PsO T n N X i) (hO : OuO X 79 l) (hl : l.length ≤ i) : Ct γ mX5_readUnit 1 0 0 [.ref 95] (SS b true) X J (fun r S' I' J' => (SS b true) = S' ∧ J = J' ∧ RsO T n N 79 X l (uR T n i) r I') := by
  unfold uR
  split
  · rename_i h; exact b_unitN79 γ hT hP hO hl h
  · rename_i h0
    split
    · rename_i h; exact b_unitA79 γ hT hP hO hl h0 h
    · rename_i h; exact b_unit079 γ hT hP hO hl h0 (Bool.eq_false_iff.mpr h)
theorem b_div179 (γ : GE) {b : Bool} {X : AI} {J : AJ} {T : Nat → Int32} {n N i : Nat} {l : Cd} (hT : Tkn T n N X) (hP : PsO T n N X i) (hO : OuO X 79 l) (hl : l.length ≤ i) (h : kK T n i = 16) (h0 : ¬ kV T n i = 0) : Ct γ mX5_readDivisor 1 0 0 [.ref 95] (SS b true) X J (fun r S' I' J' => (SS b true) = S' ∧ J = J' ∧ RsO T n N 79 X l (.inr ([(5, kV T n i)], i + 1)) r I') := by
  have ci : (nI i).toNatClampNeg = i := nI_clamp (by have := hT.1; have := hP.1; omega)
  have hN := hT.1
  have hiN := hP.1
  have e6 := hP.2.1
  have e7 : X 95 7 = 16 := hP.2.2.1.trans h
  have hi : i < N := kK_lt hT hiN (by rw [h]; decide)
  have e98 := (hT.2.2.2 i hi).2.1 h
  refine ct_of okX5_readDivisor (L := [some (.ref 95)]) (Nat.le_of_ble_eq_true rfl) rfl ?_
  refine r_run okX5_readDivisor 3 (cs := []) (σ' := (6, [some (.ref 95)], [.int 16, .int (X 95 7)], (SS b true), X, J, 0, 0)) rfl trivial ?_
  simp only [e7]
  show Rj _ _ _ _ _ _ (6, [some (.ref 95)], [.int 16, .int 16], (SS b true), X, J, 0, 0)
  refine r_icmp okX5_readDivisor rfl (fun (h6 : (16 : Int32) = (16 : Int32)) => ?_) (fun (h6 : ¬ (16 : Int32) = (16 : Int32)) => ?_)
  · refine r_run okX5_readDivisor 5 (cs := [vp_in (X 95 6) 801]) (σ' := (24, [some (.ref 95)], [.int (X 98 ((X 95 6).toNatClampNeg))], (SS b true), X, J, 0, 0)) rfl ⟨(by first | (rw [e6]; exact vin (by omega) (by decide)) | exact vin (by omega) (by decide)), trivial⟩ ?_
    simp only [e6, ci, e98]
    show Rj _ _ _ _ _ _ (24, [some (.ref 95)], [.int (kV T n i)], (SS b true), X, J, 0, 0)
    refine r_ifc okX5_readDivisor rfl (fun (h24 : ¬ (kV T n i) = (0 : Int32)) => ?_) (fun h240 => ?_)
    · refine r_run okX5_readDivisor 8 (cs := [vp_in (X 95 6) 801]) (σ' := (48, [some (.ref 95)], [.int (X 98 ((X 95 6).toNatClampNeg)), .int 47, .ref 79], (SS b true), X, J, 0, 0)) rfl ⟨(by first | (rw [e6]; exact vin (by omega) (by decide)) | exact vin (by omega) (by decide)), trivial⟩ ?_
      simp only [e6, ci, e98]
      show Rj _ _ _ _ _ _ (48, [some (.ref 95)], [.int (kV T n i), .int 47, .ref 79], (SS b true), X, J, 0, 0)
      refine r_callV okX5_readDivisor okX6_add [.int 47, .int (kV T n i)] [] 79 rfl rfl rfl kkX6_add rfl rfl (by decide) rfl rfl rfl (by decide) ⟨Nat.le_refl _, Nat.le_refl _⟩ (Nat.le_of_ble_eq_true rfl) (a_add79 γ hO (by omega) (p := (5, kV T n i)) (by first | rfl | assumption | (unfold tkO; rfl))) (fun v1 S1 I1 J1 hp => ?_)
      obtain ⟨rfl, rfl, ⟨fXa, oXa⟩, rfl⟩ := hp
      obtain ⟨Xa, eXa⟩ : ∃ z, z = I1 := ⟨_, rfl⟩
      subst eXa
      show Rj _ _ _ _ _ _ (51, [some (.ref 95)], [.int 1], (SS b true), Xa, J, 0, 0)
      refine r_run okX5_readDivisor 2 (cs := []) (σ' := (53, [some (.ref 95)], [.ref 95], (SS b true), Xa, J, 0, 0)) rfl trivial ?_
      refine r_callV okX5_readDivisor okX5_advance [] [] 95 rfl rfl rfl kkX5_advance rfl rfl (by decide) rfl rfl rfl (by decide) ⟨Nat.le_refl _, Nat.le_refl _⟩ (Nat.le_of_ble_eq_true rfl) (b_adv79 γ (Tkn_k (A := 79) (by decide) (fA_X fXa) hT) (PsO_k (by decide) fXa hP) hi) (fun v1 S1 I1 J1 hp => ?_)
      obtain ⟨rfl, rfl, ⟨fXb, pXb⟩, rfl⟩ := hp
      obtain ⟨Xb, eXb⟩ : ∃ z, z = I1 := ⟨_, rfl⟩
      subst eXb
      show Rj _ _ _ _ _ _ (56, [some (.ref 95)], [], (SS b true), Xb, J, 0, 0)
      refine r_run okX5_readDivisor 1 (cs := []) (σ' := (57, [some (.ref 95)], [.int 1], (SS b true), Xb, J, 0, 0)) rfl trivial ?_
      refine r_iret okX5_readDivisor rfl rfl (by decide +kernel) (Nat.le_refl _) (Nat.le_refl _) ?_
      exact ⟨rfl, rfl, fr_t (fA_X fXa) (f9_X fXb), rfl, pXb, OuO_9 (by decide) fXb oXa⟩
    · have h24 : (kV T n i) = (0 : Int32) := Classical.not_not.mp h240
      exact absurd h24 h0
  · exact absurd h6 (by decide)
theorem b_div279 (γ : GE) {b : Bool} {X : AI} {J : AJ} {T : Nat → Int32} {n N i : Nat} {l : Cd} (hT : Tkn T n N X) (hP : PsO T n N X i) (hO : OuO X 79 l) (hl : l.length ≤ i) (h : kK T n i = 16) (h0 : kV T n i = 0) : Ct γ mX5_readDivisor 1 0 0 [.ref 95] (SS b true) X J (fun r S' I' J' => (SS b true) = S' ∧ J = J' ∧ RsO T n N 79 X l (.inl (2, i)) r I') := by
  have ci : (nI i).toNatClampNeg = i := nI_clamp (by have := hT.1; have := hP.1; omega)
  have hN := hT.1
  have hiN := hP.1
  have e6 := hP.2.1
  have e7 : X 95 7 = 16 := hP.2.2.1.trans h
  have hi : i < N := kK_lt hT hiN (by rw [h]; decide)
  have e98 := (hT.2.2.2 i hi).2.1 h
  refine ct_of okX5_readDivisor (L := [some (.ref 95)]) (Nat.le_of_ble_eq_true rfl) rfl ?_
  refine r_run okX5_readDivisor 3 (cs := []) (σ' := (6, [some (.ref 95)], [.int 16, .int (X 95 7)], (SS b true), X, J, 0, 0)) rfl trivial ?_
  simp only [e7]
  show Rj _ _ _ _ _ _ (6, [some (.ref 95)], [.int 16, .int 16], (SS b true), X, J, 0, 0)
  refine r_icmp okX5_readDivisor rfl (fun (h6 : (16 : Int32) = (16 : Int32)) => ?_) (fun (h6 : ¬ (16 : Int32) = (16 : Int32)) => ?_)
  · refine r_run okX5_readDivisor 5 (cs := [vp_in (X 95 6) 801]) (σ' := (24, [some (.ref 95)], [.int (X 98 ((X 95 6).toNatClampNeg))], (SS b true), X, J, 0, 0)) rfl ⟨(by first | (rw [e6]; exact vin (by omega) (by decide)) | exact vin (by omega) (by decide)), trivial⟩ ?_
    simp only [e6, ci, e98]
    show Rj _ _ _ _ _ _ (24, [some (.ref 95)], [.int (kV T n i)], (SS b true), X, J, 0, 0)
    refine r_ifc okX5_readDivisor rfl (fun (h24 : ¬ (kV T n i) = (0 : Int32)) => ?_) (fun h240 => ?_)
    · exact absurd h0 h24
    · have h24 : (kV T n i) = (0 : Int32) := Classical.not_not.mp h240
      refine r_run okX5_readDivisor 2 (cs := []) (σ' := (29, [some (.ref 95)], [.int 2, .ref 95], (SS b true), X, J, 0, 0)) rfl trivial ?_
      refine r_callV okX5_readDivisor okX5_refuse [.int 2] [] 95 rfl rfl rfl kkX5_refuse rfl rfl (by decide) rfl rfl rfl (by decide) ⟨Nat.le_refl _, Nat.le_refl _⟩ (Nat.le_of_ble_eq_true rfl) (b_ref79 γ hT hP 2) (fun v1 S1 I1 J1 hp => ?_)
      obtain ⟨rfl, rfl, ⟨fr1, fl1⟩, rfl⟩ := hp
      obtain ⟨Xr, eXr⟩ : ∃ z, z = I1 := ⟨_, rfl⟩
      subst eXr
      show Rj _ _ _ _ _ _ (32, [some (.ref 95)], [.int 0], (SS b true), Xr, J, 0, 0)
      refine r_iret okX5_readDivisor rfl rfl (by decide +kernel) (Nat.le_refl _) (Nat.le_refl _) ?_
      exact ⟨rfl, rfl, f9_X fr1, rfl, OuF_9 (by decide) fr1 (OuO_F hO (by omega)), fl1⟩
  · exact absurd h6 (by decide)
theorem b_div079 (γ : GE) {b : Bool} {X : AI} {J : AJ} {T : Nat → Int32} {n N i : Nat} {l : Cd} (hT : Tkn T n N X) (hP : PsO T n N X i) (hO : OuO X 79 l) (hl : l.length ≤ i) (h : ¬ kK T n i = 16) : Ct γ mX5_readDivisor 1 0 0 [.ref 95] (SS b true) X J (fun r S' I' J' => (SS b true) = S' ∧ J = J' ∧ RsO T n N 79 X l (.inl (1, i)) r I') := by
  have ci : (nI i).toNatClampNeg = i := nI_clamp (by have := hT.1; have := hP.1; omega)
  have hN := hT.1
  have hiN := hP.1
  have e6 := hP.2.1
  have e7 := hP.2.2.1
  refine ct_of okX5_readDivisor (L := [some (.ref 95)]) (Nat.le_of_ble_eq_true rfl) rfl ?_
  refine r_run okX5_readDivisor 3 (cs := []) (σ' := (6, [some (.ref 95)], [.int 16, .int (X 95 7)], (SS b true), X, J, 0, 0)) rfl trivial ?_
  simp only [e7]
  show Rj _ _ _ _ _ _ (6, [some (.ref 95)], [.int 16, .int (kK T n i)], (SS b true), X, J, 0, 0)
  refine r_icmp okX5_readDivisor rfl (fun (h6 : (kK T n i) = (16 : Int32)) => ?_) (fun (h6 : ¬ (kK T n i) = (16 : Int32)) => ?_)
  · exact absurd h6 h
  · refine r_run okX5_readDivisor 2 (cs := []) (σ' := (11, [some (.ref 95)], [.int 1, .ref 95], (SS b true), X, J, 0, 0)) rfl trivial ?_
    refine r_callV okX5_readDivisor okX5_refuse [.int 1] [] 95 rfl rfl rfl kkX5_refuse rfl rfl (by decide) rfl rfl rfl (by decide) ⟨Nat.le_refl _, Nat.le_refl _⟩ (Nat.le_of_ble_eq_true rfl) (b_ref79 γ hT hP 1) (fun v1 S1 I1 J1 hp => ?_)
    obtain ⟨rfl, rfl, ⟨fr1, fl1⟩, rfl⟩ := hp
    obtain ⟨Xr, eXr⟩ : ∃ z, z = I1 := ⟨_, rfl⟩
    subst eXr
    show Rj _ _ _ _ _ _ (14, [some (.ref 95)], [.int 0], (SS b true), Xr, J, 0, 0)
    refine r_iret okX5_readDivisor rfl rfl (by decide +kernel) (Nat.le_refl _) (Nat.le_refl _) ?_
    exact ⟨rfl, rfl, f9_X fr1, rfl, OuF_9 (by decide) fr1 (OuO_F hO (by omega)), fl1⟩
theorem b_div79 (γ : GE) {b : Bool} {X : AI} {J : AJ} {T : Nat → Int32} {n N i : Nat} {l : Cd} (hT : Tkn T n N X) (hP : PsO T n N X i) (hO : OuO X 79 l) (hl : l.length ≤ i) : Ct γ mX5_readDivisor 1 0 0 [.ref 95] (SS b true) X J (fun r S' I' J' => (SS b true) = S' ∧ J = J' ∧ RsO T n N 79 X l (dR T n i) r I') := by
  unfold dR
  split
  · rename_i h
    split
    · rename_i h0; exact b_div279 γ hT hP hO hl h h0
    · rename_i h0; exact b_div179 γ hT hP hO hl h h0
  · rename_i h; exact b_div079 γ hT hP hO hl h
theorem a_addN87 (γ : GE) {b : Bool} {X : AI} {J : AJ} (en : X 87 7 = 800) (x y : Int32) : Ct γ mX6_add 0 0 0 [.ref 87, .int x, .int y] (SS b false) X J (rI 0 (SS b false) X J) := by
  refine ct_of okX6_add (L := [some (.ref 87), some (.int x), some (.int y)]) (Nat.le_of_ble_eq_true rfl) rfl ?_
  refine r_run okX6_add 3 (cs := []) (σ' := (7, [some (.ref 87), some (.int x), some (.int y)], [.int 800, .int (X 87 7)], (SS b false), X, J, 0, 0)) rfl trivial ?_
  refine r_icmp okX6_add rfl (fun (h7 : (X 87 7) < (800 : Int32)) => ?_) (fun (h7 : ¬ (X 87 7) < (800 : Int32)) => ?_)
  · rw [en] at h7
    exact absurd h7 (by decide)
  · refine r_run okX6_add 1 (cs := []) (σ' := (11, [some (.ref 87), some (.int x), some (.int y)], [.int 0], (SS b false), X, J, 0, 0)) rfl trivial ?_
    refine r_iret okX6_add rfl rfl (by decide +kernel) (Nat.le_refl _) (Nat.le_refl _) ?_
    exact ⟨rfl, rfl, rfl, rfl⟩
theorem a_add87 (γ : GE) {b : Bool} {X : AI} {J : AJ} {l : Cd} (hO : OuO X 87 l) (hl : l.length < 800) {p : Int32 × Int32} {x y : Int32} (hp : tkO p = (x, y)) : Ct γ mX6_add 0 0 0 [.ref 87, .int x, .int y] (SS b false) X J (fun r S' I' J' => some (.int 1) = r ∧ (SS b false) = S' ∧ (fr (qA 87) X I' ∧ OuO I' 87 (l ++ [p])) ∧ J = J') :=
  ct_post (fun v S I J q => by obtain ⟨rfl, rfl, rfl, rfl⟩ := q; exact ⟨rfl, rfl, OuO_add hO hp, rfl⟩) (o_radd87 γ hl hO.1 x y)
theorem a_addF87 (γ : GE) {b : Bool} {X : AI} {J : AJ} (hO : OuF X 87) (x y : Int32) : Ct γ mX6_add 0 0 0 [.ref 87, .int x, .int y] (SS b false) X J (fun r S' I' J' => (∃ z, some (.int z) = r) ∧ (SS b false) = S' ∧ (fr (qA 87) X I' ∧ OuF I' 87) ∧ J = J') := by
  obtain ⟨m, h1, h2⟩ := hO
  by_cases h : m < 800
  · exact ct_post (fun v S I J q => by obtain ⟨rfl, rfl, rfl, rfl⟩ := q; exact ⟨⟨_, rfl⟩, rfl, ⟨fr_t (fr_t (up_q rfl) (up_q rfl)) (up_q rfl), m + 1, by omega, by rw [upI_s]; exact (nI_succ m).symm⟩, rfl⟩) (o_radd87 γ h h2 x y)
  · have e : m = 800 := by omega
    subst e
    exact ct_post (fun v S I J q => by obtain ⟨rfl, rfl, rfl, rfl⟩ := q; exact ⟨⟨_, rfl⟩, rfl, ⟨fr_r, 800, by omega, h2⟩, rfl⟩) (a_addN87 γ h2 x y)
theorem b_adv87 (γ : GE) {b : Bool} {X : AI} {J : AJ} {T : Nat → Int32} {n N i : Nat} (hT : Tkn T n N X) (hP : PsO T n N X i) (hi : i < N) : Ct γ mX5_advance 0 0 0 [.ref 95] (SS b false) X J (fun r S' I' J' => none = r ∧ (SS b false) = S' ∧ (fr q95 X I' ∧ PsO T n N I' (i + 1)) ∧ J = J') := by
  have ci : (nI i).toNatClampNeg = i := nI_clamp (by have := hT.1; have := hP.1; omega)
  have hN := hT.1
  have hiN := hP.1
  have e6 := hP.2.1
  have ci1 : (nI (i + 1)).toNatClampNeg = i + 1 := nI_clamp (by omega)
  have e97 := (hT.2.2.1 i hiN).1
  have e971 := (hT.2.2.1 (i + 1) hi).1
  refine ct_of okX5_advance (L := [some (.ref 95)]) (Nat.le_of_ble_eq_true rfl) rfl ?_
  refine r_run okX5_advance 3 (cs := []) (σ' := (7, [some (.ref 95)], [.int 800, .int (X 95 6)], (SS b false), X, J, 0, 0)) rfl trivial ?_
  simp only [e6]
  show Rj _ _ _ _ _ _ (7, [some (.ref 95)], [.int 800, .int (nI i)], (SS b false), X, J, 0, 0)
  refine r_icmp okX5_advance rfl (fun (h7 : (800 : Int32) ≤ (nI i)) => ?_) (fun (h7 : ¬ (800 : Int32) ≤ (nI i)) => ?_)
  · exact absurd h7 (nI_ge (b := 800) (by omega) (by decide))
  · refine r_run okX5_advance 6 (cs := [vp_in (X 95 6) 801]) (σ' := (21, [some (.ref 95)], [.int 17, .int (X 97 ((X 95 6).toNatClampNeg))], (SS b false), X, J, 0, 0)) rfl ⟨(by first | (rw [e6, ← nI_succ]; exact vin (by omega) (by decide)) | (rw [e6]; exact vin (by omega) (by decide))), trivial⟩ ?_
    simp only [e6, ci, e97]
    show Rj _ _ _ _ _ _ (21, [some (.ref 95)], [.int 17, .int (kK T n i)], (SS b false), X, J, 0, 0)
    refine r_icmp okX5_advance rfl (fun (h21 : (kK T n i) = (17 : Int32)) => ?_) (fun (h21 : ¬ (kK T n i) = (17 : Int32)) => ?_)
    · exact absurd h21 (hT.2.2.2 i hi).1
    · refine r_run okX5_advance 13 (cs := [vp_in ((X 95 6) + 1) 801]) (σ' := (47, [some (.ref 95)], [], (SS b false), (upI (upI X 95 6 ((X 95 6) + 1)) 95 7 (X 97 (((X 95 6) + 1).toNatClampNeg))), J, 0, 0)) rfl ⟨(by first | (rw [e6, ← nI_succ]; exact vin (by omega) (by decide)) | (rw [e6]; exact vin (by omega) (by decide))), trivial⟩ ?_
      simp only [e6]
      show Rj _ _ _ _ _ _ (47, [some (.ref 95)], [], (SS b false), (upI (upI X 95 6 ((nI i) + 1)) 95 7 (X 97 (((nI i) + 1).toNatClampNeg))), J, 0, 0)
      refine r_vret okX5_advance rfl rfl (Nat.le_refl _) (Nat.le_refl _) ?_
      exact ⟨rfl, rfl, ⟨fr_t (up_q rfl) (up_q rfl), by omega, by rw [upI_n (by decide), upI_s, nI_succ], by rw [upI_s, ← nI_succ, ci1]; exact e971, by rw [upI_n (by decide), upI_n (by decide)]; exact hP.2.2.2.1, by rw [upI_n (by decide), upI_n (by decide)]; exact hP.2.2.2.2⟩, rfl⟩
theorem b_ref87 (γ : GE) {b : Bool} {X : AI} {J : AJ} {T : Nat → Int32} {n N i : Nat} (hT : Tkn T n N X) (hP : PsO T n N X i) (v : Int32) : Ct γ mX5_refuse 0 0 0 [.ref 95, .int v] (SS b false) X J (fun r S' I' J' => some (.int 0) = r ∧ (SS b false) = S' ∧ (fr q95 X I' ∧ FlO T n I' (v, i)) ∧ J = J') := by
  have ci : (nI i).toNatClampNeg = i := nI_clamp (by have := hT.1; have := hP.1; omega)
  have hN := hT.1
  have hiN := hP.1
  have e6 := hP.2.1
  have e99 := (hT.2.2.1 i hiN).2
  refine ct_of okX5_refuse (L := [some (.ref 95), some (.int v)]) (Nat.le_of_ble_eq_true rfl) rfl ?_
  refine r_run okX5_refuse 11 (cs := [vp_in (X 95 6) 801]) (σ' := (19, [some (.ref 95), some (.int v)], [.int 0], (SS b false), (upI (upI X 95 8 v) 95 9 (X 99 ((X 95 6).toNatClampNeg))), J, 0, 0)) rfl ⟨(by first | (rw [e6]; exact vin (by omega) (by decide)) | exact vin (by omega) (by decide)), trivial⟩ ?_
  simp only [e6, ci, e99]
  show Rj _ _ _ _ _ _ (19, [some (.ref 95), some (.int v)], [.int 0], (SS b false), (upI (upI X 95 8 v) 95 9 (nI (psN T n i))), J, 0, 0)
  refine r_iret okX5_refuse rfl rfl (by decide +kernel) (Nat.le_refl _) (Nat.le_refl _) ?_
  exact ⟨rfl, rfl, ⟨fr_t (up_q rfl) (up_q rfl), upI_n (by decide) |>.trans upI_s, upI_s⟩, rfl⟩
theorem b_take187 (γ : GE) {b : Bool} {X : AI} {J : AJ} {T : Nat → Int32} {n N i : Nat} (hT : Tkn T n N X) (hP : PsO T n N X i) (hi : i < N) {v : Int32} (h : kK T n i = v) : Ct γ mX5_take 1 0 0 [.ref 95, .int v] (SS b false) X J (fun r S' I' J' => some (.int 1) = r ∧ (SS b false) = S' ∧ (fr q95 X I' ∧ PsO T n N I' (i + 1)) ∧ J = J') := by
  have e7 := hP.2.2.1
  refine ct_of okX5_take (L := [some (.ref 95), some (.int v)]) (Nat.le_of_ble_eq_true rfl) rfl ?_
  refine r_run okX5_take 3 (cs := []) (σ' := (5, [some (.ref 95), some (.int v)], [.int v, .int (X 95 7)], (SS b false), X, J, 0, 0)) rfl trivial ?_
  simp only [e7]
  show Rj _ _ _ _ _ _ (5, [some (.ref 95), some (.int v)], [.int v, .int (kK T n i)], (SS b false), X, J, 0, 0)
  refine r_icmp okX5_take rfl (fun (h5 : (kK T n i) = v) => ?_) (fun (h5 : ¬ (kK T n i) = v) => ?_)
  · refine r_run okX5_take 1 (cs := []) (σ' := (15, [some (.ref 95), some (.int v)], [.ref 95], (SS b false), X, J, 0, 0)) rfl trivial ?_
    refine r_callV okX5_take okX5_advance [] [] 95 rfl rfl rfl kkX5_advance rfl rfl (by decide) rfl rfl rfl (by decide) ⟨Nat.le_refl _, Nat.le_refl _⟩ (Nat.le_of_ble_eq_true rfl) (b_adv87 γ hT hP hi) (fun v1 S1 I1 J1 hp => ?_)
    obtain ⟨rfl, rfl, ⟨fXa, pXa⟩, rfl⟩ := hp
    obtain ⟨Xa, eXa⟩ : ∃ z, z = I1 := ⟨_, rfl⟩
    subst eXa
    show Rj _ _ _ _ _ _ (18, [some (.ref 95), some (.int v)], [], (SS b false), Xa, J, 0, 0)
    refine r_run okX5_take 1 (cs := []) (σ' := (19, [some (.ref 95), some (.int v)], [.int 1], (SS b false), Xa, J, 0, 0)) rfl trivial ?_
    refine r_iret okX5_take rfl rfl (by decide +kernel) (Nat.le_refl _) (Nat.le_refl _) ?_
    exact ⟨rfl, rfl, ⟨fXa, pXa⟩, rfl⟩
  · exact absurd h h5
theorem b_take087 (γ : GE) {b : Bool} {X : AI} {J : AJ} {T : Nat → Int32} {n N i : Nat} (hT : Tkn T n N X) (hP : PsO T n N X i) {v : Int32} (h : ¬ kK T n i = v) : Ct γ mX5_take 1 0 0 [.ref 95, .int v] (SS b false) X J (fun r S' I' J' => some (.int 0) = r ∧ (SS b false) = S' ∧ (fr q95 X I' ∧ FlO T n I' (1, i)) ∧ J = J') := by
  have e7 := hP.2.2.1
  refine ct_of okX5_take (L := [some (.ref 95), some (.int v)]) (Nat.le_of_ble_eq_true rfl) rfl ?_
  refine r_run okX5_take 3 (cs := []) (σ' := (5, [some (.ref 95), some (.int v)], [.int v, .int (X 95 7)], (SS b false), X, J, 0, 0)) rfl trivial ?_
  simp only [e7]
  show Rj _ _ _ _ _ _ (5, [some (.ref 95), some (.int v)], [.int v, .int (kK T n i)], (SS b false), X, J, 0, 0)
  refine r_icmp okX5_take rfl (fun (h5 : (kK T n i) = v) => ?_) (fun (h5 : ¬ (kK T n i) = v) => ?_)
  · exact absurd h5 h
  · refine r_run okX5_take 2 (cs := []) (σ' := (10, [some (.ref 95), some (.int v)], [.int 1, .ref 95], (SS b false), X, J, 0, 0)) rfl trivial ?_
    refine r_callV okX5_take okX5_refuse [.int 1] [] 95 rfl rfl rfl kkX5_refuse rfl rfl (by decide) rfl rfl rfl (by decide) ⟨Nat.le_refl _, Nat.le_refl _⟩ (Nat.le_of_ble_eq_true rfl) (b_ref87 γ hT hP 1) (fun v1 S1 I1 J1 hp => ?_)
    obtain ⟨rfl, rfl, ⟨fr1, fl1⟩, rfl⟩ := hp
    obtain ⟨Xr, eXr⟩ : ∃ z, z = I1 := ⟨_, rfl⟩
    subst eXr
    show Rj _ _ _ _ _ _ (13, [some (.ref 95), some (.int v)], [.int 0], (SS b false), Xr, J, 0, 0)
    refine r_iret okX5_take rfl rfl (by decide +kernel) (Nat.le_refl _) (Nat.le_refl _) ?_
    exact ⟨rfl, rfl, ⟨fr1, fl1⟩, rfl⟩
theorem b_unitN87 (γ : GE) {b : Bool} {X : AI} {J : AJ} {T : Nat → Int32} {n N i : Nat} {l : Cd} (hT : Tkn T n N X) (hP : PsO T n N X i) (hO : OuO X 87 l) (hl : l.length ≤ i) (h : kK T n i = 16) : Ct γ mX5_readUnit 1 0 0 [.ref 95] (SS b false) X J (fun r S' I' J' => (SS b false) = S' ∧ J = J' ∧ RsO T n N 87 X l (.inr ([(0, kV T n i)], i + 1)) r I') := by
  have ci : (nI i).toNatClampNeg = i := nI_clamp (by have := hT.1; have := hP.1; omega)
  have hN := hT.1
  have hiN := hP.1
  have e6 := hP.2.1
  have e7 : X 95 7 = 16 := hP.2.2.1.trans h
  have hi : i < N := kK_lt hT hiN (by rw [h]; decide)
  have e98 := (hT.2.2.2 i hi).2.1 h
  refine ct_of okX5_readUnit (L := [some (.ref 95)]) (Nat.le_of_ble_eq_true rfl) rfl ?_
  refine r_run okX5_readUnit 3 (cs := []) (σ' := (6, [some (.ref 95)], [.int 16, .int (X 95 7)], (SS b false), X, J, 0, 0)) rfl trivial ?_
  simp only [e7]
  show Rj _ _ _ _ _ _ (6, [some (.ref 95)], [.int 16, .int 16], (SS b false), X, J, 0, 0)
  refine r_icmp okX5_readUnit rfl (fun (h6 : (16 : Int32) = (16 : Int32)) => ?_) (fun (h6 : ¬ (16 : Int32) = (16 : Int32)) => ?_)
  · refine r_run okX5_readUnit 9 (cs := [vp_in (X 95 6) 801]) (σ' := (50, [some (.ref 95)], [.int (X 98 ((X 95 6).toNatClampNeg)), .int (X 95 7), .ref 87], (SS b false), X, J, 0, 0)) rfl ⟨(by first | (rw [e6]; exact vin (by omega) (by decide)) | exact vin (by omega) (by decide)), trivial⟩ ?_
    simp only [e7, e6, ci, e98]
    show Rj _ _ _ _ _ _ (50, [some (.ref 95)], [.int (kV T n i), .int 16, .ref 87], (SS b false), X, J, 0, 0)
    refine r_callV okX5_readUnit okX6_add [.int 16, .int (kV T n i)] [] 87 rfl rfl rfl kkX6_add rfl rfl (by decide) rfl rfl rfl (by decide) ⟨Nat.le_refl _, Nat.le_refl _⟩ (Nat.le_of_ble_eq_true rfl) (a_add87 γ hO (by omega) (p := (0, kV T n i)) (by first | rfl | assumption | (unfold tkO; rfl))) (fun v1 S1 I1 J1 hp => ?_)
    obtain ⟨rfl, rfl, ⟨fXa, oXa⟩, rfl⟩ := hp
    obtain ⟨Xa, eXa⟩ : ∃ z, z = I1 := ⟨_, rfl⟩
    subst eXa
    show Rj _ _ _ _ _ _ (53, [some (.ref 95)], [.int 1], (SS b false), Xa, J, 0, 0)
    refine r_run okX5_readUnit 2 (cs := []) (σ' := (55, [some (.ref 95)], [.ref 95], (SS b false), Xa, J, 0, 0)) rfl trivial ?_
    refine r_callV okX5_readUnit okX5_advance [] [] 95 rfl rfl rfl kkX5_advance rfl rfl (by decide) rfl rfl rfl (by decide) ⟨Nat.le_refl _, Nat.le_refl _⟩ (Nat.le_of_ble_eq_true rfl) (b_adv87 γ (Tkn_k (A := 87) (by decide) (fA_X fXa) hT) (PsO_k (by decide) fXa hP) hi) (fun v1 S1 I1 J1 hp => ?_)
    obtain ⟨rfl, rfl, ⟨fXb, pXb⟩, rfl⟩ := hp
    obtain ⟨Xb, eXb⟩ : ∃ z, z = I1 := ⟨_, rfl⟩
    subst eXb
    show Rj _ _ _ _ _ _ (58, [some (.ref 95)], [], (SS b false), Xb, J, 0, 0)
    refine r_run okX5_readUnit 1 (cs := []) (σ' := (59, [some (.ref 95)], [.int 1], (SS b false), Xb, J, 0, 0)) rfl trivial ?_
    refine r_iret okX5_readUnit rfl rfl (by decide +kernel) (Nat.le_refl _) (Nat.le_refl _) ?_
    exact ⟨rfl, rfl, fr_t (fA_X fXa) (f9_X fXb), rfl, pXb, OuO_9 (by decide) fXb oXa⟩
  · exact absurd h6 (by decide)
theorem b_unitA87 (γ : GE) {b : Bool} {X : AI} {J : AJ} {T : Nat → Int32} {n N i : Nat} {l : Cd} (hT : Tkn T n N X) (hP : PsO T n N X i) (hO : OuO X 87 l) (hl : l.length ≤ i) (h0 : ¬ kK T n i = 16) (h : inB (kK T n i) 7 15 = true) : Ct γ mX5_readUnit 1 0 0 [.ref 95] (SS b false) X J (fun r S' I' J' => (SS b false) = S' ∧ J = J' ∧ RsO T n N 87 X l (.inr ([(1, kK T n i - 7)], i + 1)) r I') := by
  have ci : (nI i).toNatClampNeg = i := nI_clamp (by have := hT.1; have := hP.1; omega)
  have hN := hT.1
  have hiN := hP.1
  have e6 := hP.2.1
  have e7 := hP.2.2.1
  have h7 := inB_t.mp h
  have hi : i < N := kK_lt hT hiN (fun z => by rw [z] at h; exact absurd h (by decide))
  have e98 := (hT.2.2.2 i hi).2.2 (rg_mono (inB_rg (n := 15) (by decide) (inB_t.mpr ⟨Int32.le_trans (by decide) h7.1, h7.2⟩)) (by decide))
  have ep : tkO (1, kK T n i - 7) = (kK T n i, 0) := by simp [tkO, sub7]
  refine ct_of okX5_readUnit (L := [some (.ref 95)]) (Nat.le_of_ble_eq_true rfl) rfl ?_
  refine r_run okX5_readUnit 3 (cs := []) (σ' := (6, [some (.ref 95)], [.int 16, .int (X 95 7)], (SS b false), X, J, 0, 0)) rfl trivial ?_
  simp only [e7]
  show Rj _ _ _ _ _ _ (6, [some (.ref 95)], [.int 16, .int (kK T n i)], (SS b false), X, J, 0, 0)
  refine r_icmp okX5_readUnit rfl (fun (h6 : (kK T n i) = (16 : Int32)) => ?_) (fun (h6 : ¬ (kK T n i) = (16 : Int32)) => ?_)
  · exact absurd h6 h0
  · refine r_run okX5_readUnit 3 (cs := []) (σ' := (15, [some (.ref 95)], [.int 7, .int (X 95 7)], (SS b false), X, J, 0, 0)) rfl trivial ?_
    simp only [e7]
    show Rj _ _ _ _ _ _ (15, [some (.ref 95)], [.int 7, .int (kK T n i)], (SS b false), X, J, 0, 0)
    refine r_icmp okX5_readUnit rfl (fun (h15 : (kK T n i) < (7 : Int32)) => ?_) (fun (h15 : ¬ (kK T n i) < (7 : Int32)) => ?_)
    · exact absurd h15 (Int32.not_lt.mpr h7.1)
    · refine r_run okX5_readUnit 3 (cs := []) (σ' := (24, [some (.ref 95)], [.int 15, .int (X 95 7)], (SS b false), X, J, 0, 0)) rfl trivial ?_
      simp only [e7]
      show Rj _ _ _ _ _ _ (24, [some (.ref 95)], [.int 15, .int (kK T n i)], (SS b false), X, J, 0, 0)
      refine r_icmp okX5_readUnit rfl (fun (h24 : (kK T n i) ≤ (15 : Int32)) => ?_) (fun (h24 : ¬ (kK T n i) ≤ (15 : Int32)) => ?_)
      · refine r_run okX5_readUnit 9 (cs := [vp_in (X 95 6) 801]) (σ' := (50, [some (.ref 95)], [.int (X 98 ((X 95 6).toNatClampNeg)), .int (X 95 7), .ref 87], (SS b false), X, J, 0, 0)) rfl ⟨(by first | (rw [e6]; exact vin (by omega) (by decide)) | exact vin (by omega) (by decide)), trivial⟩ ?_
        simp only [e7, e6, ci, e98]
        show Rj _ _ _ _ _ _ (50, [some (.ref 95)], [.int 0, .int (kK T n i), .ref 87], (SS b false), X, J, 0, 0)
        refine r_callV okX5_readUnit okX6_add [.int (kK T n i), .int 0] [] 87 rfl rfl rfl kkX6_add rfl rfl (by decide) rfl rfl rfl (by decide) ⟨Nat.le_refl _, Nat.le_refl _⟩ (Nat.le_of_ble_eq_true rfl) (a_add87 γ hO (by omega) (p := (1, kK T n i - 7)) (by first | rfl | assumption | (unfold tkO; rfl))) (fun v1 S1 I1 J1 hp => ?_)
        obtain ⟨rfl, rfl, ⟨fXa, oXa⟩, rfl⟩ := hp
        obtain ⟨Xa, eXa⟩ : ∃ z, z = I1 := ⟨_, rfl⟩
        subst eXa
        show Rj _ _ _ _ _ _ (53, [some (.ref 95)], [.int 1], (SS b false), Xa, J, 0, 0)
        refine r_run okX5_readUnit 2 (cs := []) (σ' := (55, [some (.ref 95)], [.ref 95], (SS b false), Xa, J, 0, 0)) rfl trivial ?_
        refine r_callV okX5_readUnit okX5_advance [] [] 95 rfl rfl rfl kkX5_advance rfl rfl (by decide) rfl rfl rfl (by decide) ⟨Nat.le_refl _, Nat.le_refl _⟩ (Nat.le_of_ble_eq_true rfl) (b_adv87 γ (Tkn_k (A := 87) (by decide) (fA_X fXa) hT) (PsO_k (by decide) fXa hP) hi) (fun v1 S1 I1 J1 hp => ?_)
        obtain ⟨rfl, rfl, ⟨fXb, pXb⟩, rfl⟩ := hp
        obtain ⟨Xb, eXb⟩ : ∃ z, z = I1 := ⟨_, rfl⟩
        subst eXb
        show Rj _ _ _ _ _ _ (58, [some (.ref 95)], [], (SS b false), Xb, J, 0, 0)
        refine r_run okX5_readUnit 1 (cs := []) (σ' := (59, [some (.ref 95)], [.int 1], (SS b false), Xb, J, 0, 0)) rfl trivial ?_
        refine r_iret okX5_readUnit rfl rfl (by decide +kernel) (Nat.le_refl _) (Nat.le_refl _) ?_
        exact ⟨rfl, rfl, fr_t (fA_X fXa) (f9_X fXb), rfl, pXb, OuO_9 (by decide) fXb oXa⟩
      · exact absurd h7.2 h24
theorem b_unit087 (γ : GE) {b : Bool} {X : AI} {J : AJ} {T : Nat → Int32} {n N i : Nat} {l : Cd} (hT : Tkn T n N X) (hP : PsO T n N X i) (hO : OuO X 87 l) (hl : l.length ≤ i) (h0 : ¬ kK T n i = 16) (h : inB (kK T n i) 7 15 = false) : Ct γ mX5_readUnit 1 0 0 [.ref 95] (SS b false) X J (fun r S' I' J' => (SS b false) = S' ∧ J = J' ∧ RsO T n N 87 X l (.inl (1, i)) r I') := by
  have ci : (nI i).toNatClampNeg = i := nI_clamp (by have := hT.1; have := hP.1; omega)
  have hN := hT.1
  have hiN := hP.1
  have e6 := hP.2.1
  have e7 := hP.2.2.1
  refine ct_of okX5_readUnit (L := [some (.ref 95)]) (Nat.le_of_ble_eq_true rfl) rfl ?_
  refine r_run okX5_readUnit 3 (cs := []) (σ' := (6, [some (.ref 95)], [.int 16, .int (X 95 7)], (SS b false), X, J, 0, 0)) rfl trivial ?_
  simp only [e7]
  show Rj _ _ _ _ _ _ (6, [some (.ref 95)], [.int 16, .int (kK T n i)], (SS b false), X, J, 0, 0)
  refine r_icmp okX5_readUnit rfl (fun (h6 : (kK T n i) = (16 : Int32)) => ?_) (fun (h6 : ¬ (kK T n i) = (16 : Int32)) => ?_)
  · exact absurd h6 h0
  · refine r_run okX5_readUnit 3 (cs := []) (σ' := (15, [some (.ref 95)], [.int 7, .int (X 95 7)], (SS b false), X, J, 0, 0)) rfl trivial ?_
    simp only [e7]
    show Rj _ _ _ _ _ _ (15, [some (.ref 95)], [.int 7, .int (kK T n i)], (SS b false), X, J, 0, 0)
    refine r_icmp okX5_readUnit rfl (fun (h15 : (kK T n i) < (7 : Int32)) => ?_) (fun (h15 : ¬ (kK T n i) < (7 : Int32)) => ?_)
    · refine r_run okX5_readUnit 2 (cs := []) (σ' := (29, [some (.ref 95)], [.int 1, .ref 95], (SS b false), X, J, 0, 0)) rfl trivial ?_
      refine r_callV okX5_readUnit okX5_refuse [.int 1] [] 95 rfl rfl rfl kkX5_refuse rfl rfl (by decide) rfl rfl rfl (by decide) ⟨Nat.le_refl _, Nat.le_refl _⟩ (Nat.le_of_ble_eq_true rfl) (b_ref87 γ hT hP 1) (fun v1 S1 I1 J1 hp => ?_)
      obtain ⟨rfl, rfl, ⟨fr1, fl1⟩, rfl⟩ := hp
      obtain ⟨Xr, eXr⟩ : ∃ z, z = I1 := ⟨_, rfl⟩
      subst eXr
      show Rj _ _ _ _ _ _ (32, [some (.ref 95)], [.int 0], (SS b false), Xr, J, 0, 0)
      refine r_iret okX5_readUnit rfl rfl (by decide +kernel) (Nat.le_refl _) (Nat.le_refl _) ?_
      exact ⟨rfl, rfl, f9_X fr1, rfl, OuF_9 (by decide) fr1 (OuO_F hO (by omega)), fl1⟩
    · refine r_run okX5_readUnit 3 (cs := []) (σ' := (24, [some (.ref 95)], [.int 15, .int (X 95 7)], (SS b false), X, J, 0, 0)) rfl trivial ?_
      simp only [e7]
      show Rj _ _ _ _ _ _ (24, [some (.ref 95)], [.int 15, .int (kK T n i)], (SS b false), X, J, 0, 0)
      refine r_icmp okX5_readUnit rfl (fun (h24 : (kK T n i) ≤ (15 : Int32)) => ?_) (fun (h24 : ¬ (kK T n i) ≤ (15 : Int32)) => ?_)
      · exact absurd (h.symm.trans (inB_t.mpr ⟨Int32.not_lt.mp h15, h24⟩)) (by decide)
      · refine r_run okX5_readUnit 2 (cs := []) (σ' := (29, [some (.ref 95)], [.int 1, .ref 95], (SS b false), X, J, 0, 0)) rfl trivial ?_
        refine r_callV okX5_readUnit okX5_refuse [.int 1] [] 95 rfl rfl rfl kkX5_refuse rfl rfl (by decide) rfl rfl rfl (by decide) ⟨Nat.le_refl _, Nat.le_refl _⟩ (Nat.le_of_ble_eq_true rfl) (b_ref87 γ hT hP 1) (fun v1 S1 I1 J1 hp => ?_)
        obtain ⟨rfl, rfl, ⟨fr1, fl1⟩, rfl⟩ := hp
        obtain ⟨Xr, eXr⟩ : ∃ z, z = I1 := ⟨_, rfl⟩
        subst eXr
        show Rj _ _ _ _ _ _ (32, [some (.ref 95)], [.int 0], (SS b false), Xr, J, 0, 0)
        refine r_iret okX5_readUnit rfl rfl (by decide +kernel) (Nat.le_refl _) (Nat.le_refl _) ?_
        exact ⟨rfl, rfl, f9_X fr1, rfl, OuF_9 (by decide) fr1 (OuO_F hO (by omega)), fl1⟩
theorem b_unit87 (γ : GE) {b : Bool} {X : AI} {J : AJ} {T : Nat → Int32} {n N i : Nat} {l : Cd} (hT : Tkn T n N X) (hP : PsO T n N X i) (hO : OuO X 87 l) (hl : l.length ≤ i) : Ct γ mX5_readUnit 1 0 0 [.ref 95] (SS b false) X J (fun r S' I' J' => (SS b false) = S' ∧ J = J' ∧ RsO T n N 87 X l (uR T n i) r I') := by
  unfold uR
  split
  · rename_i h; exact b_unitN87 γ hT hP hO hl h
  · rename_i h0
    split
    · rename_i h; exact b_unitA87 γ hT hP hO hl h0 h
    · rename_i h; exact b_unit087 γ hT hP hO hl h0 (Bool.eq_false_iff.mpr h)
theorem b_div187 (γ : GE) {b : Bool} {X : AI} {J : AJ} {T : Nat → Int32} {n N i : Nat} {l : Cd} (hT : Tkn T n N X) (hP : PsO T n N X i) (hO : OuO X 87 l) (hl : l.length ≤ i) (h : kK T n i = 16) (h0 : ¬ kV T n i = 0) : Ct γ mX5_readDivisor 1 0 0 [.ref 95] (SS b false) X J (fun r S' I' J' => (SS b false) = S' ∧ J = J' ∧ RsO T n N 87 X l (.inr ([(5, kV T n i)], i + 1)) r I') := by
  have ci : (nI i).toNatClampNeg = i := nI_clamp (by have := hT.1; have := hP.1; omega)
  have hN := hT.1
  have hiN := hP.1
  have e6 := hP.2.1
  have e7 : X 95 7 = 16 := hP.2.2.1.trans h
  have hi : i < N := kK_lt hT hiN (by rw [h]; decide)
  have e98 := (hT.2.2.2 i hi).2.1 h
  refine ct_of okX5_readDivisor (L := [some (.ref 95)]) (Nat.le_of_ble_eq_true rfl) rfl ?_
  refine r_run okX5_readDivisor 3 (cs := []) (σ' := (6, [some (.ref 95)], [.int 16, .int (X 95 7)], (SS b false), X, J, 0, 0)) rfl trivial ?_
  simp only [e7]
  show Rj _ _ _ _ _ _ (6, [some (.ref 95)], [.int 16, .int 16], (SS b false), X, J, 0, 0)
  refine r_icmp okX5_readDivisor rfl (fun (h6 : (16 : Int32) = (16 : Int32)) => ?_) (fun (h6 : ¬ (16 : Int32) = (16 : Int32)) => ?_)
  · refine r_run okX5_readDivisor 5 (cs := [vp_in (X 95 6) 801]) (σ' := (24, [some (.ref 95)], [.int (X 98 ((X 95 6).toNatClampNeg))], (SS b false), X, J, 0, 0)) rfl ⟨(by first | (rw [e6]; exact vin (by omega) (by decide)) | exact vin (by omega) (by decide)), trivial⟩ ?_
    simp only [e6, ci, e98]
    show Rj _ _ _ _ _ _ (24, [some (.ref 95)], [.int (kV T n i)], (SS b false), X, J, 0, 0)
    refine r_ifc okX5_readDivisor rfl (fun (h24 : ¬ (kV T n i) = (0 : Int32)) => ?_) (fun h240 => ?_)
    · refine r_run okX5_readDivisor 8 (cs := [vp_in (X 95 6) 801]) (σ' := (48, [some (.ref 95)], [.int (X 98 ((X 95 6).toNatClampNeg)), .int 47, .ref 87], (SS b false), X, J, 0, 0)) rfl ⟨(by first | (rw [e6]; exact vin (by omega) (by decide)) | exact vin (by omega) (by decide)), trivial⟩ ?_
      simp only [e6, ci, e98]
      show Rj _ _ _ _ _ _ (48, [some (.ref 95)], [.int (kV T n i), .int 47, .ref 87], (SS b false), X, J, 0, 0)
      refine r_callV okX5_readDivisor okX6_add [.int 47, .int (kV T n i)] [] 87 rfl rfl rfl kkX6_add rfl rfl (by decide) rfl rfl rfl (by decide) ⟨Nat.le_refl _, Nat.le_refl _⟩ (Nat.le_of_ble_eq_true rfl) (a_add87 γ hO (by omega) (p := (5, kV T n i)) (by first | rfl | assumption | (unfold tkO; rfl))) (fun v1 S1 I1 J1 hp => ?_)
      obtain ⟨rfl, rfl, ⟨fXa, oXa⟩, rfl⟩ := hp
      obtain ⟨Xa, eXa⟩ : ∃ z, z = I1 := ⟨_, rfl⟩
      subst eXa
      show Rj _ _ _ _ _ _ (51, [some (.ref 95)], [.int 1], (SS b false), Xa, J, 0, 0)
      refine r_run okX5_readDivisor 2 (cs := []) (σ' := (53, [some (.ref 95)], [.ref 95], (SS b false), Xa, J, 0, 0)) rfl trivial ?_
      refine r_callV okX5_readDivisor okX5_advance [] [] 95 rfl rfl rfl kkX5_advance rfl rfl (by decide) rfl rfl rfl (by decide) ⟨Nat.le_refl _, Nat.le_refl _⟩ (Nat.le_of_ble_eq_true rfl) (b_adv87 γ (Tkn_k (A := 87) (by decide) (fA_X fXa) hT) (PsO_k (by decide) fXa hP) hi) (fun v1 S1 I1 J1 hp => ?_)
      obtain ⟨rfl, rfl, ⟨fXb, pXb⟩, rfl⟩ := hp
      obtain ⟨Xb, eXb⟩ : ∃ z, z = I1 := ⟨_, rfl⟩
      subst eXb
      show Rj _ _ _ _ _ _ (56, [some (.ref 95)], [], (SS b false), Xb, J, 0, 0)
      refine r_run okX5_readDivisor 1 (cs := []) (σ' := (57, [some (.ref 95)], [.int 1], (SS b false), Xb, J, 0, 0)) rfl trivial ?_
      refine r_iret okX5_readDivisor rfl rfl (by decide +kernel) (Nat.le_refl _) (Nat.le_refl _) ?_
      exact ⟨rfl, rfl, fr_t (fA_X fXa) (f9_X fXb), rfl, pXb, OuO_9 (by decide) fXb oXa⟩
    · have h24 : (kV T n i) = (0 : Int32) := Classical.not_not.mp h240
      exact absurd h24 h0
  · exact absurd h6 (by decide)
theorem b_div287 (γ : GE) {b : Bool} {X : AI} {J : AJ} {T : Nat → Int32} {n N i : Nat} {l : Cd} (hT : Tkn T n N X) (hP : PsO T n N X i) (hO : OuO X 87 l) (hl : l.length ≤ i) (h : kK T n i = 16) (h0 : kV T n i = 0) : Ct γ mX5_readDivisor 1 0 0 [.ref 95] (SS b false) X J (fun r S' I' J' => (SS b false) = S' ∧ J = J' ∧ RsO T n N 87 X l (.inl (2, i)) r I') := by
  have ci : (nI i).toNatClampNeg = i := nI_clamp (by have := hT.1; have := hP.1; omega)
  have hN := hT.1
  have hiN := hP.1
  have e6 := hP.2.1
  have e7 : X 95 7 = 16 := hP.2.2.1.trans h
  have hi : i < N := kK_lt hT hiN (by rw [h]; decide)
  have e98 := (hT.2.2.2 i hi).2.1 h
  refine ct_of okX5_readDivisor (L := [some (.ref 95)]) (Nat.le_of_ble_eq_true rfl) rfl ?_
  refine r_run okX5_readDivisor 3 (cs := []) (σ' := (6, [some (.ref 95)], [.int 16, .int (X 95 7)], (SS b false), X, J, 0, 0)) rfl trivial ?_
  simp only [e7]
  show Rj _ _ _ _ _ _ (6, [some (.ref 95)], [.int 16, .int 16], (SS b false), X, J, 0, 0)
  refine r_icmp okX5_readDivisor rfl (fun (h6 : (16 : Int32) = (16 : Int32)) => ?_) (fun (h6 : ¬ (16 : Int32) = (16 : Int32)) => ?_)
  · refine r_run okX5_readDivisor 5 (cs := [vp_in (X 95 6) 801]) (σ' := (24, [some (.ref 95)], [.int (X 98 ((X 95 6).toNatClampNeg))], (SS b false), X, J, 0, 0)) rfl ⟨(by first | (rw [e6]; exact vin (by omega) (by decide)) | exact vin (by omega) (by decide)), trivial⟩ ?_
    simp only [e6, ci, e98]
    show Rj _ _ _ _ _ _ (24, [some (.ref 95)], [.int (kV T n i)], (SS b false), X, J, 0, 0)
    refine r_ifc okX5_readDivisor rfl (fun (h24 : ¬ (kV T n i) = (0 : Int32)) => ?_) (fun h240 => ?_)
    · exact absurd h0 h24
    · have h24 : (kV T n i) = (0 : Int32) := Classical.not_not.mp h240
      refine r_run okX5_readDivisor 2 (cs := []) (σ' := (29, [some (.ref 95)], [.int 2, .ref 95], (SS b false), X, J, 0, 0)) rfl trivial ?_
      refine r_callV okX5_readDivisor okX5_refuse [.int 2] [] 95 rfl rfl rfl kkX5_refuse rfl rfl (by decide) rfl rfl rfl (by decide) ⟨Nat.le_refl _, Nat.le_refl _⟩ (Nat.le_of_ble_eq_true rfl) (b_ref87 γ hT hP 2) (fun v1 S1 I1 J1 hp => ?_)
      obtain ⟨rfl, rfl, ⟨fr1, fl1⟩, rfl⟩ := hp
      obtain ⟨Xr, eXr⟩ : ∃ z, z = I1 := ⟨_, rfl⟩
      subst eXr
      show Rj _ _ _ _ _ _ (32, [some (.ref 95)], [.int 0], (SS b false), Xr, J, 0, 0)
      refine r_iret okX5_readDivisor rfl rfl (by decide +kernel) (Nat.le_refl _) (Nat.le_refl _) ?_
      exact ⟨rfl, rfl, f9_X fr1, rfl, OuF_9 (by decide) fr1 (OuO_F hO (by omega)), fl1⟩
  · exact absurd h6 (by decide)
theorem b_div087 (γ : GE) {b : Bool} {X : AI} {J : AJ} {T : Nat → Int32} {n N i : Nat} {l : Cd} (hT : Tkn T n N X) (hP : PsO T n N X i) (hO : OuO X 87 l) (hl : l.length ≤ i) (h : ¬ kK T n i = 16) : Ct γ mX5_readDivisor 1 0 0 [.ref 95] (SS b false) X J (fun r S' I' J' => (SS b false) = S' ∧ J = J' ∧ RsO T n N 87 X l (.inl (1, i)) r I') := by
  have ci : (nI i).toNatClampNeg = i := nI_clamp (by have := hT.1; have := hP.1; omega)
  have hN := hT.1
  have hiN := hP.1
  have e6 := hP.2.1
  have e7 := hP.2.2.1
  refine ct_of okX5_readDivisor (L := [some (.ref 95)]) (Nat.le_of_ble_eq_true rfl) rfl ?_
  refine r_run okX5_readDivisor 3 (cs := []) (σ' := (6, [some (.ref 95)], [.int 16, .int (X 95 7)], (SS b false), X, J, 0, 0)) rfl trivial ?_
  simp only [e7]
  show Rj _ _ _ _ _ _ (6, [some (.ref 95)], [.int 16, .int (kK T n i)], (SS b false), X, J, 0, 0)
  refine r_icmp okX5_readDivisor rfl (fun (h6 : (kK T n i) = (16 : Int32)) => ?_) (fun (h6 : ¬ (kK T n i) = (16 : Int32)) => ?_)
  · exact absurd h6 h
  · refine r_run okX5_readDivisor 2 (cs := []) (σ' := (11, [some (.ref 95)], [.int 1, .ref 95], (SS b false), X, J, 0, 0)) rfl trivial ?_
    refine r_callV okX5_readDivisor okX5_refuse [.int 1] [] 95 rfl rfl rfl kkX5_refuse rfl rfl (by decide) rfl rfl rfl (by decide) ⟨Nat.le_refl _, Nat.le_refl _⟩ (Nat.le_of_ble_eq_true rfl) (b_ref87 γ hT hP 1) (fun v1 S1 I1 J1 hp => ?_)
    obtain ⟨rfl, rfl, ⟨fr1, fl1⟩, rfl⟩ := hp
    obtain ⟨Xr, eXr⟩ : ∃ z, z = I1 := ⟨_, rfl⟩
    subst eXr
    show Rj _ _ _ _ _ _ (14, [some (.ref 95)], [.int 0], (SS b false), Xr, J, 0, 0)
    refine r_iret okX5_readDivisor rfl rfl (by decide +kernel) (Nat.le_refl _) (Nat.le_refl _) ?_
    exact ⟨rfl, rfl, f9_X fr1, rfl, OuF_9 (by decide) fr1 (OuO_F hO (by omega)), fl1⟩
theorem b_div87 (γ : GE) {b : Bool} {X : AI} {J : AJ} {T : Nat → Int32} {n N i : Nat} {l : Cd} (hT : Tkn T n N X) (hP : PsO T n N X i) (hO : OuO X 87 l) (hl : l.length ≤ i) : Ct γ mX5_readDivisor 1 0 0 [.ref 95] (SS b false) X J (fun r S' I' J' => (SS b false) = S' ∧ J = J' ∧ RsO T n N 87 X l (dR T n i) r I') := by
  unfold dR
  split
  · rename_i h
    split
    · rename_i h0; exact b_div287 γ hT hP hO hl h h0
    · rename_i h0; exact b_div187 γ hT hP hO hl h h0
  · rename_i h; exact b_div087 γ hT hP hO hl h
