/-! ===== Radar ===== -/
def rsh (r : Nat) : Sh := .inr (4, [.inr (some (18 + 4 * r)), .inr (some (19 + 4 * r)), .inr (some (20 + 4 * r)), .inl 0, .inl 0])
theorem SSr {b c : Bool} {r : Nat} (h : r < 3) : (SS b c)[17 + 4 * r]? = some (rsh r) := by
  match r, h with
  | 0, _ => rfl
  | 1, _ => rfl
  | 2, _ => rfl
theorem SSs {b c : Bool} {r : Nat} (h : r < 3) : (SS b c)[18 + 4 * r]? = some csh := by
  match r, h with
  | 0, _ => rfl
  | 1, _ => rfl
  | 2, _ => rfl
theorem L16 : ∀ r, r < 3 → ([some 17, some 21, some 25] : List (Option Nat)).getD (nI r).toNatClampNeg none = some (17 + 4 * r) := by decide +kernel
theorem o_isThere_0 (γ : GE) {b c : Bool} {I : AI} {J : AJ} (hz : bz (I 17 3)) : Ct γ mX4_isThere 0 0 0 [.ref 17] (SS b c) I J (rI (I 17 3) (SS b c) I J) := by
  refine ct_of okX4_isThere (L := [some (.ref 17)]) (Nat.le_of_ble_eq_true rfl) rfl ?_
  refine r_run okX4_isThere 2 (cs := []) (σ' := (4, [some (.ref 17)], [.int (I 17 3)], (SS b c), I, J, 0, 0)) rfl trivial ?_
  refine r_iret okX4_isThere rfl rfl (nar_b hz) (Nat.le_refl _) (Nat.le_refl _) ?_
  exact ⟨rfl, rfl, rfl, rfl⟩
theorem o_isThere_1 (γ : GE) {b c : Bool} {I : AI} {J : AJ} (hz : bz (I 21 3)) : Ct γ mX4_isThere 0 0 0 [.ref 21] (SS b c) I J (rI (I 21 3) (SS b c) I J) := by
  refine ct_of okX4_isThere (L := [some (.ref 21)]) (Nat.le_of_ble_eq_true rfl) rfl ?_
  refine r_run okX4_isThere 2 (cs := []) (σ' := (4, [some (.ref 21)], [.int (I 21 3)], (SS b c), I, J, 0, 0)) rfl trivial ?_
  refine r_iret okX4_isThere rfl rfl (nar_b hz) (Nat.le_refl _) (Nat.le_refl _) ?_
  exact ⟨rfl, rfl, rfl, rfl⟩
theorem o_isThere_2 (γ : GE) {b c : Bool} {I : AI} {J : AJ} (hz : bz (I 25 3)) : Ct γ mX4_isThere 0 0 0 [.ref 25] (SS b c) I J (rI (I 25 3) (SS b c) I J) := by
  refine ct_of okX4_isThere (L := [some (.ref 25)]) (Nat.le_of_ble_eq_true rfl) rfl ?_
  refine r_run okX4_isThere 2 (cs := []) (σ' := (4, [some (.ref 25)], [.int (I 25 3)], (SS b c), I, J, 0, 0)) rfl trivial ?_
  refine r_iret okX4_isThere rfl rfl (nar_b hz) (Nat.le_refl _) (Nat.le_refl _) ?_
  exact ⟨rfl, rfl, rfl, rfl⟩
theorem o_isThere (γ : GE) {b c : Bool} {I : AI} {J : AJ} {r : Nat} (hr : r < 3) (hz : bz (I (17 + 4 * r) 3)) : Ct γ mX4_isThere 0 0 0 [.ref (17 + 4 * r)] (SS b c) I J (rI (I (17 + 4 * r) 3) (SS b c) I J) := by
  match r, hr with
  | 0, _ => exact o_isThere_0 γ hz
  | 1, _ => exact o_isThere_1 γ hz
  | 2, _ => exact o_isThere_2 γ hz
theorem o_roff_0 (γ : GE) {b c : Bool} {I : AI} {J : AJ} : Ct γ mX4_off 0 0 0 [.ref 17] (SS b c) I J (rI (I 17 4) (SS b c) I J) := by
  refine ct_of okX4_off (L := [some (.ref 17)]) (Nat.le_of_ble_eq_true rfl) rfl ?_
  refine r_run okX4_off 2 (cs := []) (σ' := (4, [some (.ref 17)], [.int (I 17 4)], (SS b c), I, J, 0, 0)) rfl trivial ?_
  refine r_iret okX4_off rfl rfl rfl (Nat.le_refl _) (Nat.le_refl _) ?_
  exact ⟨rfl, rfl, rfl, rfl⟩
theorem o_roff_1 (γ : GE) {b c : Bool} {I : AI} {J : AJ} : Ct γ mX4_off 0 0 0 [.ref 21] (SS b c) I J (rI (I 21 4) (SS b c) I J) := by
  refine ct_of okX4_off (L := [some (.ref 21)]) (Nat.le_of_ble_eq_true rfl) rfl ?_
  refine r_run okX4_off 2 (cs := []) (σ' := (4, [some (.ref 21)], [.int (I 21 4)], (SS b c), I, J, 0, 0)) rfl trivial ?_
  refine r_iret okX4_off rfl rfl rfl (Nat.le_refl _) (Nat.le_refl _) ?_
  exact ⟨rfl, rfl, rfl, rfl⟩
theorem o_roff_2 (γ : GE) {b c : Bool} {I : AI} {J : AJ} : Ct γ mX4_off 0 0 0 [.ref 25] (SS b c) I J (rI (I 25 4) (SS b c) I J) := by
  refine ct_of okX4_off (L := [some (.ref 25)]) (Nat.le_of_ble_eq_true rfl) rfl ?_
  refine r_run okX4_off 2 (cs := []) (σ' := (4, [some (.ref 25)], [.int (I 25 4)], (SS b c), I, J, 0, 0)) rfl trivial ?_
  refine r_iret okX4_off rfl rfl rfl (Nat.le_refl _) (Nat.le_refl _) ?_
  exact ⟨rfl, rfl, rfl, rfl⟩
theorem o_roff (γ : GE) {b c : Bool} {I : AI} {J : AJ} {r : Nat} (hr : r < 3)  : Ct γ mX4_off 0 0 0 [.ref (17 + 4 * r)] (SS b c) I J (rI (I (17 + 4 * r) 4) (SS b c) I J) := by
  match r, hr with
  | 0, _ => exact o_roff_0 γ 
  | 1, _ => exact o_roff_1 γ 
  | 2, _ => exact o_roff_2 γ 
theorem o_isBlind_0 (γ : GE) {b c : Bool} {I : AI} {J : AJ} {g : Nat → Bool} (hg : cs J 20 g) {x : Nat} (hx : x < 96) : Ct γ mX4_isBlind 1 0 0 [.ref 17, .int (nI x)] (SS b c) I J (rI (bi (g x)) (SS b c) I J) := by
  refine ct_of okX4_isBlind (L := [some (.ref 17), some (.int (nI x))]) (Nat.le_of_ble_eq_true rfl) rfl ?_
  refine r_run okX4_isBlind 3 (cs := []) (σ' := (5, [some (.ref 17), some (.int (nI x))], [.int (nI x), .ref 20], (SS b c), I, J, 0, 0)) rfl trivial ?_
  refine r_callV okX4_isBlind okX0_has [.int (nI x)] [] 20 rfl rfl rfl kkX0_has rfl rfl (by decide) rfl rfl rfl (by decide) ⟨Nat.le_refl _, Nat.le_refl _⟩ (Nat.le_of_ble_eq_true rfl) (a_has γ rfl hg (x := x) (by omega) rfl) (fun v1 S1 I1 J1 hp => ?_)
  obtain ⟨rfl, rfl, rfl, rfl⟩ := hp
  show Rj _ _ _ _ _ _ (8, [some (.ref 17), some (.int (nI x))], [.int (bi (g x))], (SS b c), I, J, 0, 0)
  refine r_iret okX4_isBlind rfl rfl (nar_b (bi_bz _)) (Nat.le_refl _) (Nat.le_refl _) ?_
  exact ⟨rfl, rfl, rfl, rfl⟩
theorem o_isBlind_1 (γ : GE) {b c : Bool} {I : AI} {J : AJ} {g : Nat → Bool} (hg : cs J 24 g) {x : Nat} (hx : x < 96) : Ct γ mX4_isBlind 1 0 0 [.ref 21, .int (nI x)] (SS b c) I J (rI (bi (g x)) (SS b c) I J) := by
  refine ct_of okX4_isBlind (L := [some (.ref 21), some (.int (nI x))]) (Nat.le_of_ble_eq_true rfl) rfl ?_
  refine r_run okX4_isBlind 3 (cs := []) (σ' := (5, [some (.ref 21), some (.int (nI x))], [.int (nI x), .ref 24], (SS b c), I, J, 0, 0)) rfl trivial ?_
  refine r_callV okX4_isBlind okX0_has [.int (nI x)] [] 24 rfl rfl rfl kkX0_has rfl rfl (by decide) rfl rfl rfl (by decide) ⟨Nat.le_refl _, Nat.le_refl _⟩ (Nat.le_of_ble_eq_true rfl) (a_has γ rfl hg (x := x) (by omega) rfl) (fun v1 S1 I1 J1 hp => ?_)
  obtain ⟨rfl, rfl, rfl, rfl⟩ := hp
  show Rj _ _ _ _ _ _ (8, [some (.ref 21), some (.int (nI x))], [.int (bi (g x))], (SS b c), I, J, 0, 0)
  refine r_iret okX4_isBlind rfl rfl (nar_b (bi_bz _)) (Nat.le_refl _) (Nat.le_refl _) ?_
  exact ⟨rfl, rfl, rfl, rfl⟩
theorem o_isBlind_2 (γ : GE) {b c : Bool} {I : AI} {J : AJ} {g : Nat → Bool} (hg : cs J 28 g) {x : Nat} (hx : x < 96) : Ct γ mX4_isBlind 1 0 0 [.ref 25, .int (nI x)] (SS b c) I J (rI (bi (g x)) (SS b c) I J) := by
  refine ct_of okX4_isBlind (L := [some (.ref 25), some (.int (nI x))]) (Nat.le_of_ble_eq_true rfl) rfl ?_
  refine r_run okX4_isBlind 3 (cs := []) (σ' := (5, [some (.ref 25), some (.int (nI x))], [.int (nI x), .ref 28], (SS b c), I, J, 0, 0)) rfl trivial ?_
  refine r_callV okX4_isBlind okX0_has [.int (nI x)] [] 28 rfl rfl rfl kkX0_has rfl rfl (by decide) rfl rfl rfl (by decide) ⟨Nat.le_refl _, Nat.le_refl _⟩ (Nat.le_of_ble_eq_true rfl) (a_has γ rfl hg (x := x) (by omega) rfl) (fun v1 S1 I1 J1 hp => ?_)
  obtain ⟨rfl, rfl, rfl, rfl⟩ := hp
  show Rj _ _ _ _ _ _ (8, [some (.ref 25), some (.int (nI x))], [.int (bi (g x))], (SS b c), I, J, 0, 0)
  refine r_iret okX4_isBlind rfl rfl (nar_b (bi_bz _)) (Nat.le_refl _) (Nat.le_refl _) ?_
  exact ⟨rfl, rfl, rfl, rfl⟩
theorem o_isBlind (γ : GE) {b c : Bool} {I : AI} {J : AJ} {r : Nat} (hr : r < 3) {g : Nat → Bool} (hg : cs J (20 + 4 * r) g) {x : Nat} (hx : x < 96) : Ct γ mX4_isBlind 1 0 0 [.ref (17 + 4 * r), .int (nI x)] (SS b c) I J (rI (bi (g x)) (SS b c) I J) := by
  match r, hr with
  | 0, _ => exact o_isBlind_0 γ hg hx
  | 1, _ => exact o_isBlind_1 γ hg hx
  | 2, _ => exact o_isBlind_2 γ hg hx
theorem o_renew_0 (γ : GE) {b c : Bool} {I : AI} {J : AJ} {f g : Nat → Bool} (hf : cs J 19 f) (hg : cs J 20 g) : Ct γ mX4_renewSight 2 0 0 [.ref 17] (SS b c) I J (rS (SS b c) I J 18 (fun x => f x && !g x)) := by
  refine ct_of okX4_renewSight (L := [some (.ref 17)]) (Nat.le_of_ble_eq_true rfl) rfl ?_
  refine r_run okX4_renewSight 4 (cs := []) (σ' := (8, [some (.ref 17)], [.ref 19, .ref 18], (SS b c), I, J, 0, 0)) rfl trivial ?_
  refine r_callV okX4_renewSight okX0_copy [.ref 19] [] 18 rfl rfl rfl kkX0_copy rfl rfl (by decide) rfl rfl rfl (by decide) ⟨Nat.le_refl _, Nat.le_refl _⟩ (Nat.le_of_ble_eq_true rfl) (a_copy γ rfl rfl hf) (fun v1 S1 I1 J1 hp => ?_)
  obtain ⟨rfl, rfl, rfl, J1, rfl, k1, c1⟩ := hp
  show Rj _ _ _ _ _ _ (11, [some (.ref 17)], [], (SS b c), I, J1, 0, 0)
  refine r_run okX4_renewSight 4 (cs := []) (σ' := (19, [some (.ref 17)], [.ref 20, .ref 18], (SS b c), I, J1, 0, 0)) rfl trivial ?_
  refine r_callV okX4_renewSight okX0_drop [.ref 20] [] 18 rfl rfl rfl kkX0_drop rfl rfl (by decide) rfl rfl rfl (by decide) ⟨Nat.le_refl _, Nat.le_refl _⟩ (Nat.le_of_ble_eq_true rfl) (a_drop γ rfl c1 rfl (by decide) (cs_k (k1 20 (by decide)) hg)) (fun v1 S1 I1 J1 hp => ?_)
  obtain ⟨rfl, rfl, rfl, J2, rfl, k2, c2⟩ := hp
  show Rj _ _ _ _ _ _ (22, [some (.ref 17)], [], (SS b c), I, J2, 0, 0)
  refine r_vret okX4_renewSight rfl rfl (Nat.le_refl _) (Nat.le_refl _) ?_
  exact ⟨rfl, rfl, rfl, _, rfl, (kJ_t (kJ_m (by decide) k1) (kJ_m (by decide) k2)), c2⟩
theorem o_renew_1 (γ : GE) {b c : Bool} {I : AI} {J : AJ} {f g : Nat → Bool} (hf : cs J 23 f) (hg : cs J 24 g) : Ct γ mX4_renewSight 2 0 0 [.ref 21] (SS b c) I J (rS (SS b c) I J 22 (fun x => f x && !g x)) := by
  refine ct_of okX4_renewSight (L := [some (.ref 21)]) (Nat.le_of_ble_eq_true rfl) rfl ?_
  refine r_run okX4_renewSight 4 (cs := []) (σ' := (8, [some (.ref 21)], [.ref 23, .ref 22], (SS b c), I, J, 0, 0)) rfl trivial ?_
  refine r_callV okX4_renewSight okX0_copy [.ref 23] [] 22 rfl rfl rfl kkX0_copy rfl rfl (by decide) rfl rfl rfl (by decide) ⟨Nat.le_refl _, Nat.le_refl _⟩ (Nat.le_of_ble_eq_true rfl) (a_copy γ rfl rfl hf) (fun v1 S1 I1 J1 hp => ?_)
  obtain ⟨rfl, rfl, rfl, J1, rfl, k1, c1⟩ := hp
  show Rj _ _ _ _ _ _ (11, [some (.ref 21)], [], (SS b c), I, J1, 0, 0)
  refine r_run okX4_renewSight 4 (cs := []) (σ' := (19, [some (.ref 21)], [.ref 24, .ref 22], (SS b c), I, J1, 0, 0)) rfl trivial ?_
  refine r_callV okX4_renewSight okX0_drop [.ref 24] [] 22 rfl rfl rfl kkX0_drop rfl rfl (by decide) rfl rfl rfl (by decide) ⟨Nat.le_refl _, Nat.le_refl _⟩ (Nat.le_of_ble_eq_true rfl) (a_drop γ rfl c1 rfl (by decide) (cs_k (k1 24 (by decide)) hg)) (fun v1 S1 I1 J1 hp => ?_)
  obtain ⟨rfl, rfl, rfl, J2, rfl, k2, c2⟩ := hp
  show Rj _ _ _ _ _ _ (22, [some (.ref 21)], [], (SS b c), I, J2, 0, 0)
  refine r_vret okX4_renewSight rfl rfl (Nat.le_refl _) (Nat.le_refl _) ?_
  exact ⟨rfl, rfl, rfl, _, rfl, (kJ_t (kJ_m (by decide) k1) (kJ_m (by decide) k2)), c2⟩
theorem o_renew_2 (γ : GE) {b c : Bool} {I : AI} {J : AJ} {f g : Nat → Bool} (hf : cs J 27 f) (hg : cs J 28 g) : Ct γ mX4_renewSight 2 0 0 [.ref 25] (SS b c) I J (rS (SS b c) I J 26 (fun x => f x && !g x)) := by
  refine ct_of okX4_renewSight (L := [some (.ref 25)]) (Nat.le_of_ble_eq_true rfl) rfl ?_
  refine r_run okX4_renewSight 4 (cs := []) (σ' := (8, [some (.ref 25)], [.ref 27, .ref 26], (SS b c), I, J, 0, 0)) rfl trivial ?_
  refine r_callV okX4_renewSight okX0_copy [.ref 27] [] 26 rfl rfl rfl kkX0_copy rfl rfl (by decide) rfl rfl rfl (by decide) ⟨Nat.le_refl _, Nat.le_refl _⟩ (Nat.le_of_ble_eq_true rfl) (a_copy γ rfl rfl hf) (fun v1 S1 I1 J1 hp => ?_)
  obtain ⟨rfl, rfl, rfl, J1, rfl, k1, c1⟩ := hp
  show Rj _ _ _ _ _ _ (11, [some (.ref 25)], [], (SS b c), I, J1, 0, 0)
  refine r_run okX4_renewSight 4 (cs := []) (σ' := (19, [some (.ref 25)], [.ref 28, .ref 26], (SS b c), I, J1, 0, 0)) rfl trivial ?_
  refine r_callV okX4_renewSight okX0_drop [.ref 28] [] 26 rfl rfl rfl kkX0_drop rfl rfl (by decide) rfl rfl rfl (by decide) ⟨Nat.le_refl _, Nat.le_refl _⟩ (Nat.le_of_ble_eq_true rfl) (a_drop γ rfl c1 rfl (by decide) (cs_k (k1 28 (by decide)) hg)) (fun v1 S1 I1 J1 hp => ?_)
  obtain ⟨rfl, rfl, rfl, J2, rfl, k2, c2⟩ := hp
  show Rj _ _ _ _ _ _ (22, [some (.ref 25)], [], (SS b c), I, J2, 0, 0)
  refine r_vret okX4_renewSight rfl rfl (Nat.le_refl _) (Nat.le_refl _) ?_
  exact ⟨rfl, rfl, rfl, _, rfl, (kJ_t (kJ_m (by decide) k1) (kJ_m (by decide) k2)), c2⟩
theorem o_place_0 (γ : GE) {b c : Bool} {I : AI} {J : AJ} {x f : Nat} (hx : x < 96) (hf : f < 12) (v : Int32) : Ct γ mX4_place 3 0 0 [.ref 17, .int (nI x), .int (nI f), .int v] (SS b c) I J (fun rt S' I' J' => none = rt ∧ (SS b c) = S' ∧ upI (upI I 17 3 1) 17 4 v = I' ∧ kJ [18, 19, 20] J J' ∧ cs J' 18 (fun y => decide (farN y x ≤ f)) ∧ cs J' 19 (fun y => decide (farN y x ≤ f)) ∧ cs J' 20 (fun _ => false)) := by
  refine ct_of okX4_place (L := [some (.ref 17), some (.int (nI x)), some (.int (nI f)), some (.int v)]) (Nat.le_of_ble_eq_true rfl) rfl ?_
  refine r_run okX4_place 10 (cs := [bz 1]) (σ' := (16, [some (.ref 17), some (.int (nI x)), some (.int (nI f)), some (.int v)], [.int (nI f), .int (nI x), .ref 19], (SS b c), (upI (upI I 17 3 1) 17 4 v), J, 0, 0)) rfl ⟨(Or.inr rfl), trivial⟩ ?_
  refine r_callV okX4_place okX0_circle [.int (nI x), .int (nI f)] [] 19 rfl rfl rfl kkX0_circle rfl rfl (by decide) rfl rfl rfl (by decide) ⟨Nat.le_refl _, Nat.le_refl _⟩ (Nat.le_of_ble_eq_true rfl) (a_circle γ rfl (x := x) (r := f) hx hf rfl rfl) (fun v1 S1 I1 J1 hp => ?_)
  obtain ⟨rfl, rfl, rfl, J1, rfl, k1, c1⟩ := hp
  show Rj _ _ _ _ _ _ (19, [some (.ref 17), some (.int (nI x)), some (.int (nI f)), some (.int v)], [], (SS b c), (upI (upI I 17 3 1) 17 4 v), J1, 0, 0)
  refine r_run okX4_place 2 (cs := []) (σ' := (23, [some (.ref 17), some (.int (nI x)), some (.int (nI f)), some (.int v)], [.ref 20], (SS b c), (upI (upI I 17 3 1) 17 4 v), J1, 0, 0)) rfl trivial ?_
  refine r_callV okX4_place okX0_clear [] [] 20 rfl rfl rfl kkX0_clear rfl rfl (by decide) rfl rfl rfl (by decide) ⟨Nat.le_refl _, Nat.le_refl _⟩ (Nat.le_of_ble_eq_true rfl) (a_clear γ rfl) (fun v1 S1 I1 J1 hp => ?_)
  obtain ⟨rfl, rfl, rfl, J2, rfl, k2, c2⟩ := hp
  show Rj _ _ _ _ _ _ (26, [some (.ref 17), some (.int (nI x)), some (.int (nI f)), some (.int v)], [], (SS b c), (upI (upI I 17 3 1) 17 4 v), J2, 0, 0)
  refine r_run okX4_place 1 (cs := []) (σ' := (27, [some (.ref 17), some (.int (nI x)), some (.int (nI f)), some (.int v)], [.ref 17], (SS b c), (upI (upI I 17 3 1) 17 4 v), J2, 0, 0)) rfl trivial ?_
  refine r_callV okX4_place okX4_renewSight [] [] 17 rfl rfl rfl kkX4_renewSight rfl rfl (by decide) rfl rfl rfl (by decide) ⟨Nat.le_refl _, Nat.le_refl _⟩ (Nat.le_of_ble_eq_true rfl) (o_renew_0 γ (cs_k (k2 19 (by decide)) c1) c2) (fun v1 S1 I1 J1 hp => ?_)
  obtain ⟨rfl, rfl, rfl, J3, rfl, k3, c3⟩ := hp
  show Rj _ _ _ _ _ _ (30, [some (.ref 17), some (.int (nI x)), some (.int (nI f)), some (.int v)], [], (SS b c), (upI (upI I 17 3 1) 17 4 v), J3, 0, 0)
  refine r_vret okX4_place rfl rfl (Nat.le_refl _) (Nat.le_refl _) ?_
  exact ⟨rfl, rfl, rfl, (kJ_t (kJ_m (by decide) k1) (kJ_t (kJ_m (by decide) k2) (kJ_m (by decide) k3))), cs_f (fun y _ => by simp) c3, (cs_k (k3 19 (by decide)) (cs_k (k2 19 (by decide)) c1)), (cs_k (k3 20 (by decide)) c2)⟩
theorem o_place_1 (γ : GE) {b c : Bool} {I : AI} {J : AJ} {x f : Nat} (hx : x < 96) (hf : f < 12) (v : Int32) : Ct γ mX4_place 3 0 0 [.ref 21, .int (nI x), .int (nI f), .int v] (SS b c) I J (fun rt S' I' J' => none = rt ∧ (SS b c) = S' ∧ upI (upI I 21 3 1) 21 4 v = I' ∧ kJ [22, 23, 24] J J' ∧ cs J' 22 (fun y => decide (farN y x ≤ f)) ∧ cs J' 23 (fun y => decide (farN y x ≤ f)) ∧ cs J' 24 (fun _ => false)) := by
  refine ct_of okX4_place (L := [some (.ref 21), some (.int (nI x)), some (.int (nI f)), some (.int v)]) (Nat.le_of_ble_eq_true rfl) rfl ?_
  refine r_run okX4_place 10 (cs := [bz 1]) (σ' := (16, [some (.ref 21), some (.int (nI x)), some (.int (nI f)), some (.int v)], [.int (nI f), .int (nI x), .ref 23], (SS b c), (upI (upI I 21 3 1) 21 4 v), J, 0, 0)) rfl ⟨(Or.inr rfl), trivial⟩ ?_
  refine r_callV okX4_place okX0_circle [.int (nI x), .int (nI f)] [] 23 rfl rfl rfl kkX0_circle rfl rfl (by decide) rfl rfl rfl (by decide) ⟨Nat.le_refl _, Nat.le_refl _⟩ (Nat.le_of_ble_eq_true rfl) (a_circle γ rfl (x := x) (r := f) hx hf rfl rfl) (fun v1 S1 I1 J1 hp => ?_)
  obtain ⟨rfl, rfl, rfl, J1, rfl, k1, c1⟩ := hp
  show Rj _ _ _ _ _ _ (19, [some (.ref 21), some (.int (nI x)), some (.int (nI f)), some (.int v)], [], (SS b c), (upI (upI I 21 3 1) 21 4 v), J1, 0, 0)
  refine r_run okX4_place 2 (cs := []) (σ' := (23, [some (.ref 21), some (.int (nI x)), some (.int (nI f)), some (.int v)], [.ref 24], (SS b c), (upI (upI I 21 3 1) 21 4 v), J1, 0, 0)) rfl trivial ?_
  refine r_callV okX4_place okX0_clear [] [] 24 rfl rfl rfl kkX0_clear rfl rfl (by decide) rfl rfl rfl (by decide) ⟨Nat.le_refl _, Nat.le_refl _⟩ (Nat.le_of_ble_eq_true rfl) (a_clear γ rfl) (fun v1 S1 I1 J1 hp => ?_)
  obtain ⟨rfl, rfl, rfl, J2, rfl, k2, c2⟩ := hp
  show Rj _ _ _ _ _ _ (26, [some (.ref 21), some (.int (nI x)), some (.int (nI f)), some (.int v)], [], (SS b c), (upI (upI I 21 3 1) 21 4 v), J2, 0, 0)
  refine r_run okX4_place 1 (cs := []) (σ' := (27, [some (.ref 21), some (.int (nI x)), some (.int (nI f)), some (.int v)], [.ref 21], (SS b c), (upI (upI I 21 3 1) 21 4 v), J2, 0, 0)) rfl trivial ?_
  refine r_callV okX4_place okX4_renewSight [] [] 21 rfl rfl rfl kkX4_renewSight rfl rfl (by decide) rfl rfl rfl (by decide) ⟨Nat.le_refl _, Nat.le_refl _⟩ (Nat.le_of_ble_eq_true rfl) (o_renew_1 γ (cs_k (k2 23 (by decide)) c1) c2) (fun v1 S1 I1 J1 hp => ?_)
  obtain ⟨rfl, rfl, rfl, J3, rfl, k3, c3⟩ := hp
  show Rj _ _ _ _ _ _ (30, [some (.ref 21), some (.int (nI x)), some (.int (nI f)), some (.int v)], [], (SS b c), (upI (upI I 21 3 1) 21 4 v), J3, 0, 0)
  refine r_vret okX4_place rfl rfl (Nat.le_refl _) (Nat.le_refl _) ?_
  exact ⟨rfl, rfl, rfl, (kJ_t (kJ_m (by decide) k1) (kJ_t (kJ_m (by decide) k2) (kJ_m (by decide) k3))), cs_f (fun y _ => by simp) c3, (cs_k (k3 23 (by decide)) (cs_k (k2 23 (by decide)) c1)), (cs_k (k3 24 (by decide)) c2)⟩
theorem o_place_2 (γ : GE) {b c : Bool} {I : AI} {J : AJ} {x f : Nat} (hx : x < 96) (hf : f < 12) (v : Int32) : Ct γ mX4_place 3 0 0 [.ref 25, .int (nI x), .int (nI f), .int v] (SS b c) I J (fun rt S' I' J' => none = rt ∧ (SS b c) = S' ∧ upI (upI I 25 3 1) 25 4 v = I' ∧ kJ [26, 27, 28] J J' ∧ cs J' 26 (fun y => decide (farN y x ≤ f)) ∧ cs J' 27 (fun y => decide (farN y x ≤ f)) ∧ cs J' 28 (fun _ => false)) := by
  refine ct_of okX4_place (L := [some (.ref 25), some (.int (nI x)), some (.int (nI f)), some (.int v)]) (Nat.le_of_ble_eq_true rfl) rfl ?_
  refine r_run okX4_place 10 (cs := [bz 1]) (σ' := (16, [some (.ref 25), some (.int (nI x)), some (.int (nI f)), some (.int v)], [.int (nI f), .int (nI x), .ref 27], (SS b c), (upI (upI I 25 3 1) 25 4 v), J, 0, 0)) rfl ⟨(Or.inr rfl), trivial⟩ ?_
  refine r_callV okX4_place okX0_circle [.int (nI x), .int (nI f)] [] 27 rfl rfl rfl kkX0_circle rfl rfl (by decide) rfl rfl rfl (by decide) ⟨Nat.le_refl _, Nat.le_refl _⟩ (Nat.le_of_ble_eq_true rfl) (a_circle γ rfl (x := x) (r := f) hx hf rfl rfl) (fun v1 S1 I1 J1 hp => ?_)
  obtain ⟨rfl, rfl, rfl, J1, rfl, k1, c1⟩ := hp
  show Rj _ _ _ _ _ _ (19, [some (.ref 25), some (.int (nI x)), some (.int (nI f)), some (.int v)], [], (SS b c), (upI (upI I 25 3 1) 25 4 v), J1, 0, 0)
  refine r_run okX4_place 2 (cs := []) (σ' := (23, [some (.ref 25), some (.int (nI x)), some (.int (nI f)), some (.int v)], [.ref 28], (SS b c), (upI (upI I 25 3 1) 25 4 v), J1, 0, 0)) rfl trivial ?_
  refine r_callV okX4_place okX0_clear [] [] 28 rfl rfl rfl kkX0_clear rfl rfl (by decide) rfl rfl rfl (by decide) ⟨Nat.le_refl _, Nat.le_refl _⟩ (Nat.le_of_ble_eq_true rfl) (a_clear γ rfl) (fun v1 S1 I1 J1 hp => ?_)
  obtain ⟨rfl, rfl, rfl, J2, rfl, k2, c2⟩ := hp
  show Rj _ _ _ _ _ _ (26, [some (.ref 25), some (.int (nI x)), some (.int (nI f)), some (.int v)], [], (SS b c), (upI (upI I 25 3 1) 25 4 v), J2, 0, 0)
  refine r_run okX4_place 1 (cs := []) (σ' := (27, [some (.ref 25), some (.int (nI x)), some (.int (nI f)), some (.int v)], [.ref 25], (SS b c), (upI (upI I 25 3 1) 25 4 v), J2, 0, 0)) rfl trivial ?_
  refine r_callV okX4_place okX4_renewSight [] [] 25 rfl rfl rfl kkX4_renewSight rfl rfl (by decide) rfl rfl rfl (by decide) ⟨Nat.le_refl _, Nat.le_refl _⟩ (Nat.le_of_ble_eq_true rfl) (o_renew_2 γ (cs_k (k2 27 (by decide)) c1) c2) (fun v1 S1 I1 J1 hp => ?_)
  obtain ⟨rfl, rfl, rfl, J3, rfl, k3, c3⟩ := hp
  show Rj _ _ _ _ _ _ (30, [some (.ref 25), some (.int (nI x)), some (.int (nI f)), some (.int v)], [], (SS b c), (upI (upI I 25 3 1) 25 4 v), J3, 0, 0)
  refine r_vret okX4_place rfl rfl (Nat.le_refl _) (Nat.le_refl _) ?_
  exact ⟨rfl, rfl, rfl, (kJ_t (kJ_m (by decide) k1) (kJ_t (kJ_m (by decide) k2) (kJ_m (by decide) k3))), cs_f (fun y _ => by simp) c3, (cs_k (k3 27 (by decide)) (cs_k (k2 27 (by decide)) c1)), (cs_k (k3 28 (by decide)) c2)⟩
theorem o_place (γ : GE) {b c : Bool} {I : AI} {J : AJ} {r : Nat} (hr : r < 3) {x f : Nat} (hx : x < 96) (hf : f < 12) (v : Int32) : Ct γ mX4_place 3 0 0 [.ref (17 + 4 * r), .int (nI x), .int (nI f), .int v] (SS b c) I J (fun rt S' I' J' => none = rt ∧ (SS b c) = S' ∧ upI (upI I (17 + 4 * r) 3 1) (17 + 4 * r) 4 v = I' ∧ kJ [(18 + 4 * r), (19 + 4 * r), (20 + 4 * r)] J J' ∧ cs J' (18 + 4 * r) (fun y => decide (farN y x ≤ f)) ∧ cs J' (19 + 4 * r) (fun y => decide (farN y x ≤ f)) ∧ cs J' (20 + 4 * r) (fun _ => false)) := by
  match r, hr with
  | 0, _ => exact o_place_0 γ hx hf v
  | 1, _ => exact o_place_1 γ hx hf v
  | 2, _ => exact o_place_2 γ hx hf v
theorem o_turnBlind_0 (γ : GE) {b c : Bool} {I : AI} {J : AJ} {f g : Nat → Bool} (hf : cs J 19 f) (hg : cs J 20 g) {x : Nat} (hx : x < 96) (z : Bool) : Ct γ mX4_turnBlind 3 0 0 [.ref 17, .int (nI x), .int (bi z)] (SS b c) I J (fun rt S' I' J' => none = rt ∧ (SS b c) = S' ∧ I = I' ∧ kJ [18, 20] J J' ∧ cs J' 18 (fun y => f y && !(if y = x then z else g y)) ∧ cs J' 19 f ∧ cs J' 20 (fun y => if y = x then z else g y)) := by
  refine ct_of okX4_turnBlind (L := [some (.ref 17), some (.int (nI x)), some (.int (bi z))]) (Nat.le_of_ble_eq_true rfl) rfl ?_
  refine r_run okX4_turnBlind 4 (cs := []) (σ' := (6, [some (.ref 17), some (.int (nI x)), some (.int (bi z))], [.int (bi z), .int (nI x), .ref 20], (SS b c), I, J, 0, 0)) rfl trivial ?_
  refine r_callV okX4_turnBlind okX0_set [.int (nI x), .int (bi z)] [] 20 rfl rfl rfl kkX0_set rfl rfl (by decide) rfl rfl rfl (by decide) ⟨Nat.le_refl _, Nat.le_refl _⟩ (Nat.le_of_ble_eq_true rfl) (a_set γ rfl hg (x := x) hx rfl z rfl) (fun v1 S1 I1 J1 hp => ?_)
  obtain ⟨rfl, rfl, rfl, J1, rfl, k1, c1⟩ := hp
  show Rj _ _ _ _ _ _ (9, [some (.ref 17), some (.int (nI x)), some (.int (bi z))], [], (SS b c), I, J1, 0, 0)
  refine r_run okX4_turnBlind 1 (cs := []) (σ' := (10, [some (.ref 17), some (.int (nI x)), some (.int (bi z))], [.ref 17], (SS b c), I, J1, 0, 0)) rfl trivial ?_
  refine r_callV okX4_turnBlind okX4_renewSight [] [] 17 rfl rfl rfl kkX4_renewSight rfl rfl (by decide) rfl rfl rfl (by decide) ⟨Nat.le_refl _, Nat.le_refl _⟩ (Nat.le_of_ble_eq_true rfl) (o_renew_0 γ (cs_k (k1 19 (by decide)) hf) c1) (fun v1 S1 I1 J1 hp => ?_)
  obtain ⟨rfl, rfl, rfl, J2, rfl, k2, c2⟩ := hp
  show Rj _ _ _ _ _ _ (13, [some (.ref 17), some (.int (nI x)), some (.int (bi z))], [], (SS b c), I, J2, 0, 0)
  refine r_vret okX4_turnBlind rfl rfl (Nat.le_refl _) (Nat.le_refl _) ?_
  exact ⟨rfl, rfl, rfl, (kJ_t (kJ_m (by decide) k1) (kJ_m (by decide) k2)), c2, (cs_k (k2 19 (by decide)) (cs_k (k1 19 (by decide)) hf)), (cs_k (k2 20 (by decide)) c1)⟩
theorem o_turnBlind_1 (γ : GE) {b c : Bool} {I : AI} {J : AJ} {f g : Nat → Bool} (hf : cs J 23 f) (hg : cs J 24 g) {x : Nat} (hx : x < 96) (z : Bool) : Ct γ mX4_turnBlind 3 0 0 [.ref 21, .int (nI x), .int (bi z)] (SS b c) I J (fun rt S' I' J' => none = rt ∧ (SS b c) = S' ∧ I = I' ∧ kJ [22, 24] J J' ∧ cs J' 22 (fun y => f y && !(if y = x then z else g y)) ∧ cs J' 23 f ∧ cs J' 24 (fun y => if y = x then z else g y)) := by
  refine ct_of okX4_turnBlind (L := [some (.ref 21), some (.int (nI x)), some (.int (bi z))]) (Nat.le_of_ble_eq_true rfl) rfl ?_
  refine r_run okX4_turnBlind 4 (cs := []) (σ' := (6, [some (.ref 21), some (.int (nI x)), some (.int (bi z))], [.int (bi z), .int (nI x), .ref 24], (SS b c), I, J, 0, 0)) rfl trivial ?_
  refine r_callV okX4_turnBlind okX0_set [.int (nI x), .int (bi z)] [] 24 rfl rfl rfl kkX0_set rfl rfl (by decide) rfl rfl rfl (by decide) ⟨Nat.le_refl _, Nat.le_refl _⟩ (Nat.le_of_ble_eq_true rfl) (a_set γ rfl hg (x := x) hx rfl z rfl) (fun v1 S1 I1 J1 hp => ?_)
  obtain ⟨rfl, rfl, rfl, J1, rfl, k1, c1⟩ := hp
  show Rj _ _ _ _ _ _ (9, [some (.ref 21), some (.int (nI x)), some (.int (bi z))], [], (SS b c), I, J1, 0, 0)
  refine r_run okX4_turnBlind 1 (cs := []) (σ' := (10, [some (.ref 21), some (.int (nI x)), some (.int (bi z))], [.ref 21], (SS b c), I, J1, 0, 0)) rfl trivial ?_
  refine r_callV okX4_turnBlind okX4_renewSight [] [] 21 rfl rfl rfl kkX4_renewSight rfl rfl (by decide) rfl rfl rfl (by decide) ⟨Nat.le_refl _, Nat.le_refl _⟩ (Nat.le_of_ble_eq_true rfl) (o_renew_1 γ (cs_k (k1 23 (by decide)) hf) c1) (fun v1 S1 I1 J1 hp => ?_)
  obtain ⟨rfl, rfl, rfl, J2, rfl, k2, c2⟩ := hp
  show Rj _ _ _ _ _ _ (13, [some (.ref 21), some (.int (nI x)), some (.int (bi z))], [], (SS b c), I, J2, 0, 0)
  refine r_vret okX4_turnBlind rfl rfl (Nat.le_refl _) (Nat.le_refl _) ?_
  exact ⟨rfl, rfl, rfl, (kJ_t (kJ_m (by decide) k1) (kJ_m (by decide) k2)), c2, (cs_k (k2 23 (by decide)) (cs_k (k1 23 (by decide)) hf)), (cs_k (k2 24 (by decide)) c1)⟩
theorem o_turnBlind_2 (γ : GE) {b c : Bool} {I : AI} {J : AJ} {f g : Nat → Bool} (hf : cs J 27 f) (hg : cs J 28 g) {x : Nat} (hx : x < 96) (z : Bool) : Ct γ mX4_turnBlind 3 0 0 [.ref 25, .int (nI x), .int (bi z)] (SS b c) I J (fun rt S' I' J' => none = rt ∧ (SS b c) = S' ∧ I = I' ∧ kJ [26, 28] J J' ∧ cs J' 26 (fun y => f y && !(if y = x then z else g y)) ∧ cs J' 27 f ∧ cs J' 28 (fun y => if y = x then z else g y)) := by
  refine ct_of okX4_turnBlind (L := [some (.ref 25), some (.int (nI x)), some (.int (bi z))]) (Nat.le_of_ble_eq_true rfl) rfl ?_
  refine r_run okX4_turnBlind 4 (cs := []) (σ' := (6, [some (.ref 25), some (.int (nI x)), some (.int (bi z))], [.int (bi z), .int (nI x), .ref 28], (SS b c), I, J, 0, 0)) rfl trivial ?_
  refine r_callV okX4_turnBlind okX0_set [.int (nI x), .int (bi z)] [] 28 rfl rfl rfl kkX0_set rfl rfl (by decide) rfl rfl rfl (by decide) ⟨Nat.le_refl _, Nat.le_refl _⟩ (Nat.le_of_ble_eq_true rfl) (a_set γ rfl hg (x := x) hx rfl z rfl) (fun v1 S1 I1 J1 hp => ?_)
  obtain ⟨rfl, rfl, rfl, J1, rfl, k1, c1⟩ := hp
  show Rj _ _ _ _ _ _ (9, [some (.ref 25), some (.int (nI x)), some (.int (bi z))], [], (SS b c), I, J1, 0, 0)
  refine r_run okX4_turnBlind 1 (cs := []) (σ' := (10, [some (.ref 25), some (.int (nI x)), some (.int (bi z))], [.ref 25], (SS b c), I, J1, 0, 0)) rfl trivial ?_
  refine r_callV okX4_turnBlind okX4_renewSight [] [] 25 rfl rfl rfl kkX4_renewSight rfl rfl (by decide) rfl rfl rfl (by decide) ⟨Nat.le_refl _, Nat.le_refl _⟩ (Nat.le_of_ble_eq_true rfl) (o_renew_2 γ (cs_k (k1 27 (by decide)) hf) c1) (fun v1 S1 I1 J1 hp => ?_)
  obtain ⟨rfl, rfl, rfl, J2, rfl, k2, c2⟩ := hp
  show Rj _ _ _ _ _ _ (13, [some (.ref 25), some (.int (nI x)), some (.int (bi z))], [], (SS b c), I, J2, 0, 0)
  refine r_vret okX4_turnBlind rfl rfl (Nat.le_refl _) (Nat.le_refl _) ?_
  exact ⟨rfl, rfl, rfl, (kJ_t (kJ_m (by decide) k1) (kJ_m (by decide) k2)), c2, (cs_k (k2 27 (by decide)) (cs_k (k1 27 (by decide)) hf)), (cs_k (k2 28 (by decide)) c1)⟩
theorem o_turnBlind (γ : GE) {b c : Bool} {I : AI} {J : AJ} {r : Nat} (hr : r < 3) {f g : Nat → Bool} (hf : cs J (19 + 4 * r) f) (hg : cs J (20 + 4 * r) g) {x : Nat} (hx : x < 96) (z : Bool) : Ct γ mX4_turnBlind 3 0 0 [.ref (17 + 4 * r), .int (nI x), .int (bi z)] (SS b c) I J (fun rt S' I' J' => none = rt ∧ (SS b c) = S' ∧ I = I' ∧ kJ [(18 + 4 * r), (20 + 4 * r)] J J' ∧ cs J' (18 + 4 * r) (fun y => f y && !(if y = x then z else g y)) ∧ cs J' (19 + 4 * r) f ∧ cs J' (20 + 4 * r) (fun y => if y = x then z else g y)) := by
  match r, hr with
  | 0, _ => exact o_turnBlind_0 γ hf hg hx z
  | 1, _ => exact o_turnBlind_1 γ hf hg hx z
  | 2, _ => exact o_turnBlind_2 γ hf hg hx z
