/-! ===== CellSet: a set of cells in two longs ===== -/
def ldJ (J : AJ) (a : Nat) (x y : Int64) : AJ := upJ (upJ J a 0 x) a 1 y
theorem c_X0_load (γ : GE) {S : List Sh} {I : AI} {J : AJ} {a : Nat} (ha : S[a]? = some csh) (x y : Int64) : Ct γ mX0_load 0 0 0 [.ref a, .long x, .long y] S I J (rV S I (ldJ J a x y)) := by
  refine ct_of okX0_load (L := [some (.ref a), some (.long x), none, some (.long y), none]) (Nat.le_of_ble_eq_true rfl) rfl ?_
  refine r_run okX0_load 2 (cs := []) (σ' := (2, [some (.ref a), some (.long x), none, some (.long y), none], [.long x, .ref a], S, I, J, 0, 0)) rfl trivial ?_
  refine r_putJ okX0_load rfl rfl ha rfl ?_
  show Rj _ _ _ _ _ _ (5, [some (.ref a), some (.long x), none, some (.long y), none], [], S, I, (upJ J a 0 x), 0, 0)
  refine r_run okX0_load 2 (cs := []) (σ' := (7, [some (.ref a), some (.long x), none, some (.long y), none], [.long y, .ref a], S, I, (upJ J a 0 x), 0, 0)) rfl trivial ?_
  refine r_putJ okX0_load rfl rfl ha rfl ?_
  show Rj _ _ _ _ _ _ (10, [some (.ref a), some (.long x), none, some (.long y), none], [], S, I, (upJ (upJ J a 0 x) a 1 y), 0, 0)
  refine r_vret okX0_load rfl rfl (Nat.le_refl _) (Nat.le_refl _) ?_
  exact ⟨rfl, rfl, rfl, rfl⟩
theorem c_X0_fill (γ : GE) {S : List Sh} {I : AI} {J : AJ} {a : Nat} (ha : S[a]? = some csh) : Ct γ mX0_fill 1 0 0 [.ref a] S I J (rV S I (ldJ J a 281474976710655 281474976710655)) := by
  refine ct_of okX0_fill (L := [some (.ref a)]) (Nat.le_of_ble_eq_true rfl) rfl ?_
  refine r_run okX0_fill 3 (cs := []) (σ' := (7, [some (.ref a)], [.long 281474976710655, .long 281474976710655, .ref a], S, I, J, 0, 0)) rfl trivial ?_
  refine r_callV okX0_fill okX0_load [.long 281474976710655, .long 281474976710655] [] a rfl rfl rfl kkX0_load rfl rfl (by decide) ha rfl rfl (by decide) ⟨Nat.le_refl _, Nat.le_refl _⟩ (Nat.le_of_ble_eq_true rfl) (c_X0_load γ ha _ _) (fun v1 S1 I1 J1 hp => ?_)
  obtain ⟨rfl, rfl, rfl, rfl⟩ := hp
  show Rj _ _ _ _ _ _ (10, [some (.ref a)], [], S, I, (ldJ J a 281474976710655 281474976710655), 0, 0)
  refine r_vret okX0_fill rfl rfl (Nat.le_refl _) (Nat.le_refl _) ?_
  exact ⟨rfl, rfl, rfl, rfl⟩
theorem c_X0_clear (γ : GE) {S : List Sh} {I : AI} {J : AJ} {a : Nat} (ha : S[a]? = some csh) : Ct γ mX0_clear 1 0 0 [.ref a] S I J (rV S I (ldJ J a 0 0)) := by
  refine ct_of okX0_clear (L := [some (.ref a)]) (Nat.le_of_ble_eq_true rfl) rfl ?_
  refine r_run okX0_clear 3 (cs := []) (σ' := (3, [some (.ref a)], [.long 0, .long 0, .ref a], S, I, J, 0, 0)) rfl trivial ?_
  refine r_callV okX0_clear okX0_load [.long 0, .long 0] [] a rfl rfl rfl kkX0_load rfl rfl (by decide) ha rfl rfl (by decide) ⟨Nat.le_refl _, Nat.le_refl _⟩ (Nat.le_of_ble_eq_true rfl) (c_X0_load γ ha _ _) (fun v1 S1 I1 J1 hp => ?_)
  obtain ⟨rfl, rfl, rfl, rfl⟩ := hp
  show Rj _ _ _ _ _ _ (6, [some (.ref a)], [], S, I, (ldJ J a 0 0), 0, 0)
  refine r_vret okX0_clear rfl rfl (Nat.le_refl _) (Nat.le_refl _) ?_
  exact ⟨rfl, rfl, rfl, rfl⟩
theorem c_X0_copy (γ : GE) {S : List Sh} {I : AI} {J : AJ} {a : Nat} (ha : S[a]? = some csh) {b : Nat} (hb : S[b]? = some csh) : Ct γ mX0_copy 1 0 0 [.ref a, .ref b] S I J (rV S I (ldJ J a (J b 0) (J b 1))) := by
  refine ct_of okX0_copy (L := [some (.ref a), some (.ref b)]) (Nat.le_of_ble_eq_true rfl) rfl ?_
  refine r_run okX0_copy 2 (cs := []) (σ' := (2, [some (.ref a), some (.ref b)], [.ref b, .ref a], S, I, J, 0, 0)) rfl trivial ?_
  refine r_getf okX0_copy rfl rfl hb rfl rfl ?_
  show Rj _ _ _ _ _ _ (5, [some (.ref a), some (.ref b)], [.long (J b 0), .ref a], S, I, J, 0, 0)
  refine r_run okX0_copy 1 (cs := []) (σ' := (6, [some (.ref a), some (.ref b)], [.ref b, .long (J b 0), .ref a], S, I, J, 0, 0)) rfl trivial ?_
  refine r_getf okX0_copy rfl rfl hb rfl rfl ?_
  show Rj _ _ _ _ _ _ (9, [some (.ref a), some (.ref b)], [.long (J b 1), .long (J b 0), .ref a], S, I, J, 0, 0)
  refine r_callV okX0_copy okX0_load [.long (J b 0), .long (J b 1)] [] a rfl rfl rfl kkX0_load rfl rfl (by decide) ha rfl rfl (by decide) ⟨Nat.le_refl _, Nat.le_refl _⟩ (Nat.le_of_ble_eq_true rfl) (c_X0_load γ ha _ _) (fun v1 S1 I1 J1 hp => ?_)
  obtain ⟨rfl, rfl, rfl, rfl⟩ := hp
  show Rj _ _ _ _ _ _ (12, [some (.ref a), some (.ref b)], [], S, I, (ldJ J a (J b 0) (J b 1)), 0, 0)
  refine r_vret okX0_copy rfl rfl (Nat.le_refl _) (Nat.le_refl _) ?_
  exact ⟨rfl, rfl, rfl, rfl⟩
def bitL (x : Int64) (c : Int32) : Bool := decide (¬ lg_cmp ((x.toUInt64 >>> (c.toInt64.toUInt64 &&& Int64.toUInt64 63)).toInt64 &&& 1) 0 = 0)
/-- CellSet.has -/
def hasC (x y : Int64) (c : Int32) : Bool := if 48 ≤ c then bitL y (c - 48) else bitL x c
theorem c_X0_has (γ : GE) {S : List Sh} {I : AI} {J : AJ} {a : Nat} (ha : S[a]? = some csh) (c : Int32) : Ct γ mX0_has 0 0 0 [.ref a, .int c] S I J (rI (bi (hasC (J a 0) (J a 1) c)) S I J) := by
  refine ct_of okX0_has (L := [some (.ref a), some (.int c)]) (Nat.le_of_ble_eq_true rfl) rfl ?_
  refine r_run okX0_has 2 (cs := []) (σ' := (3, [some (.ref a), some (.int c)], [.int 48, .int c], S, I, J, 0, 0)) rfl trivial ?_
  refine r_icmp okX0_has rfl (fun (h3 : (48 : Int32) ≤ c) => ?_) (fun (h3 : ¬ (48 : Int32) ≤ c) => ?_)
  · refine r_run okX0_has 1 (cs := []) (σ' := (28, [some (.ref a), some (.int c)], [.ref a], S, I, J, 0, 0)) rfl trivial ?_
    refine r_getf okX0_has rfl rfl ha rfl rfl ?_
    show Rj _ _ _ _ _ _ (31, [some (.ref a), some (.int c)], [.long (J a 1)], S, I, J, 0, 0)
    refine r_run okX0_has 8 (cs := []) (σ' := (40, [some (.ref a), some (.int c)], [.int (lg_cmp ((((J a 1).toUInt64 >>> ((c - 48).toInt64.toUInt64 &&& Int64.toUInt64 63)).toInt64) &&& 1) 0)], S, I, J, 0, 0)) rfl trivial ?_
    refine r_ifc okX0_has rfl (fun (h40 : (lg_cmp ((((J a 1).toUInt64 >>> ((c - 48).toInt64.toUInt64 &&& Int64.toUInt64 63)).toInt64) &&& 1) 0) = (0 : Int32)) => ?_) (fun (h40 : ¬ (lg_cmp ((((J a 1).toUInt64 >>> ((c - 48).toInt64.toUInt64 &&& Int64.toUInt64 63)).toInt64) &&& 1) 0) = (0 : Int32)) => ?_)
    · refine r_run okX0_has 1 (cs := []) (σ' := (48, [some (.ref a), some (.int c)], [.int 0], S, I, J, 0, 0)) rfl trivial ?_
      refine r_iret okX0_has rfl rfl (by decide +kernel) (Nat.le_refl _) (Nat.le_refl _) ?_
      refine ⟨?_, rfl, rfl, rfl⟩
      try simp only [cI] at *
      simp only [hasC, bitL]
      simp [*, bi]
    · refine r_run okX0_has 2 (cs := []) (σ' := (48, [some (.ref a), some (.int c)], [.int 1], S, I, J, 0, 0)) rfl trivial ?_
      refine r_iret okX0_has rfl rfl (by decide +kernel) (Nat.le_refl _) (Nat.le_refl _) ?_
      refine ⟨?_, rfl, rfl, rfl⟩
      try simp only [cI] at *
      simp only [hasC, bitL]
      simp [*, bi]
  · refine r_run okX0_has 1 (cs := []) (σ' := (7, [some (.ref a), some (.int c)], [.ref a], S, I, J, 0, 0)) rfl trivial ?_
    refine r_getf okX0_has rfl rfl ha rfl rfl ?_
    show Rj _ _ _ _ _ _ (10, [some (.ref a), some (.int c)], [.long (J a 0)], S, I, J, 0, 0)
    refine r_run okX0_has 6 (cs := []) (σ' := (16, [some (.ref a), some (.int c)], [.int (lg_cmp ((((J a 0).toUInt64 >>> (c.toInt64.toUInt64 &&& Int64.toUInt64 63)).toInt64) &&& 1) 0)], S, I, J, 0, 0)) rfl trivial ?_
    refine r_ifc okX0_has rfl (fun (h16 : (lg_cmp ((((J a 0).toUInt64 >>> (c.toInt64.toUInt64 &&& Int64.toUInt64 63)).toInt64) &&& 1) 0) = (0 : Int32)) => ?_) (fun (h16 : ¬ (lg_cmp ((((J a 0).toUInt64 >>> (c.toInt64.toUInt64 &&& Int64.toUInt64 63)).toInt64) &&& 1) 0) = (0 : Int32)) => ?_)
    · refine r_run okX0_has 2 (cs := []) (σ' := (48, [some (.ref a), some (.int c)], [.int 0], S, I, J, 0, 0)) rfl trivial ?_
      refine r_iret okX0_has rfl rfl (by decide +kernel) (Nat.le_refl _) (Nat.le_refl _) ?_
      refine ⟨?_, rfl, rfl, rfl⟩
      try simp only [cI] at *
      simp only [hasC, bitL]
      simp [*, bi]
    · refine r_run okX0_has 2 (cs := []) (σ' := (48, [some (.ref a), some (.int c)], [.int 1], S, I, J, 0, 0)) rfl trivial ?_
      refine r_iret okX0_has rfl rfl (by decide +kernel) (Nat.le_refl _) (Nat.le_refl _) ?_
      refine ⟨?_, rfl, rfl, rfl⟩
      try simp only [cI] at *
      simp only [hasC, bitL]
      simp [*, bi]
theorem c_X0_keep (γ : GE) {S : List Sh} {I : AI} {J : AJ} {a : Nat} (ha : S[a]? = some csh) {b : Nat} (hb : S[b]? = some csh) (hab : b ≠ a) : Ct γ mX0_keep 0 0 0 [.ref a, .ref b] S I J (rV S I (ldJ J a (J a 0 &&& J b 0) (J a 1 &&& J b 1))) := by
  refine ct_of okX0_keep (L := [some (.ref a), some (.ref b)]) (Nat.le_of_ble_eq_true rfl) rfl ?_
  refine r_run okX0_keep 2 (cs := []) (σ' := (2, [some (.ref a), some (.ref b)], [.ref a, .ref a], S, I, J, 0, 0)) rfl trivial ?_
  refine r_getf okX0_keep rfl rfl ha rfl rfl ?_
  show Rj _ _ _ _ _ _ (5, [some (.ref a), some (.ref b)], [.long (J a 0), .ref a], S, I, J, 0, 0)
  refine r_run okX0_keep 1 (cs := []) (σ' := (6, [some (.ref a), some (.ref b)], [.ref b, .long (J a 0), .ref a], S, I, J, 0, 0)) rfl trivial ?_
  refine r_getf okX0_keep rfl rfl hb rfl rfl ?_
  show Rj _ _ _ _ _ _ (9, [some (.ref a), some (.ref b)], [.long (J b 0), .long (J a 0), .ref a], S, I, J, 0, 0)
  refine r_run okX0_keep 1 (cs := []) (σ' := (10, [some (.ref a), some (.ref b)], [.long ((J a 0) &&& (J b 0)), .ref a], S, I, J, 0, 0)) rfl trivial ?_
  refine r_putJ okX0_keep rfl rfl ha rfl ?_
  show Rj _ _ _ _ _ _ (13, [some (.ref a), some (.ref b)], [], S, I, (upJ J a 0 ((J a 0) &&& (J b 0))), 0, 0)
  refine r_run okX0_keep 2 (cs := []) (σ' := (15, [some (.ref a), some (.ref b)], [.ref a, .ref a], S, I, (upJ J a 0 ((J a 0) &&& (J b 0))), 0, 0)) rfl trivial ?_
  refine r_getf okX0_keep rfl rfl ha rfl rfl ?_
  show Rj _ _ _ _ _ _ (18, [some (.ref a), some (.ref b)], [.long ((upJ J a 0 ((J a 0) &&& (J b 0))) a 1), .ref a], S, I, (upJ J a 0 ((J a 0) &&& (J b 0))), 0, 0)
  refine r_run okX0_keep 1 (cs := []) (σ' := (19, [some (.ref a), some (.ref b)], [.ref b, .long ((upJ J a 0 ((J a 0) &&& (J b 0))) a 1), .ref a], S, I, (upJ J a 0 ((J a 0) &&& (J b 0))), 0, 0)) rfl trivial ?_
  refine r_getf okX0_keep rfl rfl hb rfl rfl ?_
  show Rj _ _ _ _ _ _ (22, [some (.ref a), some (.ref b)], [.long ((upJ J a 0 ((J a 0) &&& (J b 0))) b 1), .long ((upJ J a 0 ((J a 0) &&& (J b 0))) a 1), .ref a], S, I, (upJ J a 0 ((J a 0) &&& (J b 0))), 0, 0)
  refine r_run okX0_keep 1 (cs := []) (σ' := (23, [some (.ref a), some (.ref b)], [.long (((upJ J a 0 ((J a 0) &&& (J b 0))) a 1) &&& ((upJ J a 0 ((J a 0) &&& (J b 0))) b 1)), .ref a], S, I, (upJ J a 0 ((J a 0) &&& (J b 0))), 0, 0)) rfl trivial ?_
  refine r_putJ okX0_keep rfl rfl ha rfl ?_
  show Rj _ _ _ _ _ _ (26, [some (.ref a), some (.ref b)], [], S, I, (upJ (upJ J a 0 ((J a 0) &&& (J b 0))) a 1 (((upJ J a 0 ((J a 0) &&& (J b 0))) a 1) &&& ((upJ J a 0 ((J a 0) &&& (J b 0))) b 1))), 0, 0)
  refine r_vret okX0_keep rfl rfl (Nat.le_refl _) (Nat.le_refl _) ?_
  exact ⟨rfl, rfl, rfl, by simp [ldJ, upJ, hab]⟩
theorem c_X0_drop (γ : GE) {S : List Sh} {I : AI} {J : AJ} {a : Nat} (ha : S[a]? = some csh) {b : Nat} (hb : S[b]? = some csh) (hab : b ≠ a) : Ct γ mX0_drop 0 0 0 [.ref a, .ref b] S I J (rV S I (ldJ J a (J a 0 &&& (J b 0 ^^^ -1)) (J a 1 &&& (J b 1 ^^^ -1)))) := by
  refine ct_of okX0_drop (L := [some (.ref a), some (.ref b)]) (Nat.le_of_ble_eq_true rfl) rfl ?_
  refine r_run okX0_drop 2 (cs := []) (σ' := (2, [some (.ref a), some (.ref b)], [.ref a, .ref a], S, I, J, 0, 0)) rfl trivial ?_
  refine r_getf okX0_drop rfl rfl ha rfl rfl ?_
  show Rj _ _ _ _ _ _ (5, [some (.ref a), some (.ref b)], [.long (J a 0), .ref a], S, I, J, 0, 0)
  refine r_run okX0_drop 1 (cs := []) (σ' := (6, [some (.ref a), some (.ref b)], [.ref b, .long (J a 0), .ref a], S, I, J, 0, 0)) rfl trivial ?_
  refine r_getf okX0_drop rfl rfl hb rfl rfl ?_
  show Rj _ _ _ _ _ _ (9, [some (.ref a), some (.ref b)], [.long (J b 0), .long (J a 0), .ref a], S, I, J, 0, 0)
  refine r_run okX0_drop 3 (cs := []) (σ' := (14, [some (.ref a), some (.ref b)], [.long ((J a 0) &&& ((J b 0) ^^^ (-1))), .ref a], S, I, J, 0, 0)) rfl trivial ?_
  refine r_putJ okX0_drop rfl rfl ha rfl ?_
  show Rj _ _ _ _ _ _ (17, [some (.ref a), some (.ref b)], [], S, I, (upJ J a 0 ((J a 0) &&& ((J b 0) ^^^ (-1)))), 0, 0)
  refine r_run okX0_drop 2 (cs := []) (σ' := (19, [some (.ref a), some (.ref b)], [.ref a, .ref a], S, I, (upJ J a 0 ((J a 0) &&& ((J b 0) ^^^ (-1)))), 0, 0)) rfl trivial ?_
  refine r_getf okX0_drop rfl rfl ha rfl rfl ?_
  show Rj _ _ _ _ _ _ (22, [some (.ref a), some (.ref b)], [.long ((upJ J a 0 ((J a 0) &&& ((J b 0) ^^^ (-1)))) a 1), .ref a], S, I, (upJ J a 0 ((J a 0) &&& ((J b 0) ^^^ (-1)))), 0, 0)
  refine r_run okX0_drop 1 (cs := []) (σ' := (23, [some (.ref a), some (.ref b)], [.ref b, .long ((upJ J a 0 ((J a 0) &&& ((J b 0) ^^^ (-1)))) a 1), .ref a], S, I, (upJ J a 0 ((J a 0) &&& ((J b 0) ^^^ (-1)))), 0, 0)) rfl trivial ?_
  refine r_getf okX0_drop rfl rfl hb rfl rfl ?_
  show Rj _ _ _ _ _ _ (26, [some (.ref a), some (.ref b)], [.long ((upJ J a 0 ((J a 0) &&& ((J b 0) ^^^ (-1)))) b 1), .long ((upJ J a 0 ((J a 0) &&& ((J b 0) ^^^ (-1)))) a 1), .ref a], S, I, (upJ J a 0 ((J a 0) &&& ((J b 0) ^^^ (-1)))), 0, 0)
  refine r_run okX0_drop 3 (cs := []) (σ' := (31, [some (.ref a), some (.ref b)], [.long (((upJ J a 0 ((J a 0) &&& ((J b 0) ^^^ (-1)))) a 1) &&& (((upJ J a 0 ((J a 0) &&& ((J b 0) ^^^ (-1)))) b 1) ^^^ (-1))), .ref a], S, I, (upJ J a 0 ((J a 0) &&& ((J b 0) ^^^ (-1)))), 0, 0)) rfl trivial ?_
  refine r_putJ okX0_drop rfl rfl ha rfl ?_
  show Rj _ _ _ _ _ _ (34, [some (.ref a), some (.ref b)], [], S, I, (upJ (upJ J a 0 ((J a 0) &&& ((J b 0) ^^^ (-1)))) a 1 (((upJ J a 0 ((J a 0) &&& ((J b 0) ^^^ (-1)))) a 1) &&& (((upJ J a 0 ((J a 0) &&& ((J b 0) ^^^ (-1)))) b 1) ^^^ (-1)))), 0, 0)
  refine r_vret okX0_drop rfl rfl (Nat.le_refl _) (Nat.le_refl _) ?_
  exact ⟨rfl, rfl, rfl, by simp [ldJ, upJ, hab]⟩
theorem c_X0_join (γ : GE) {S : List Sh} {I : AI} {J : AJ} {a : Nat} (ha : S[a]? = some csh) {b : Nat} (hb : S[b]? = some csh) (hab : b ≠ a) : Ct γ mX0_join 0 0 0 [.ref a, .ref b] S I J (rV S I (ldJ J a (J a 0 ||| J b 0) (J a 1 ||| J b 1))) := by
  refine ct_of okX0_join (L := [some (.ref a), some (.ref b)]) (Nat.le_of_ble_eq_true rfl) rfl ?_
  refine r_run okX0_join 2 (cs := []) (σ' := (2, [some (.ref a), some (.ref b)], [.ref a, .ref a], S, I, J, 0, 0)) rfl trivial ?_
  refine r_getf okX0_join rfl rfl ha rfl rfl ?_
  show Rj _ _ _ _ _ _ (5, [some (.ref a), some (.ref b)], [.long (J a 0), .ref a], S, I, J, 0, 0)
  refine r_run okX0_join 1 (cs := []) (σ' := (6, [some (.ref a), some (.ref b)], [.ref b, .long (J a 0), .ref a], S, I, J, 0, 0)) rfl trivial ?_
  refine r_getf okX0_join rfl rfl hb rfl rfl ?_
  show Rj _ _ _ _ _ _ (9, [some (.ref a), some (.ref b)], [.long (J b 0), .long (J a 0), .ref a], S, I, J, 0, 0)
  refine r_run okX0_join 1 (cs := []) (σ' := (10, [some (.ref a), some (.ref b)], [.long ((J a 0) ||| (J b 0)), .ref a], S, I, J, 0, 0)) rfl trivial ?_
  refine r_putJ okX0_join rfl rfl ha rfl ?_
  show Rj _ _ _ _ _ _ (13, [some (.ref a), some (.ref b)], [], S, I, (upJ J a 0 ((J a 0) ||| (J b 0))), 0, 0)
  refine r_run okX0_join 2 (cs := []) (σ' := (15, [some (.ref a), some (.ref b)], [.ref a, .ref a], S, I, (upJ J a 0 ((J a 0) ||| (J b 0))), 0, 0)) rfl trivial ?_
  refine r_getf okX0_join rfl rfl ha rfl rfl ?_
  show Rj _ _ _ _ _ _ (18, [some (.ref a), some (.ref b)], [.long ((upJ J a 0 ((J a 0) ||| (J b 0))) a 1), .ref a], S, I, (upJ J a 0 ((J a 0) ||| (J b 0))), 0, 0)
  refine r_run okX0_join 1 (cs := []) (σ' := (19, [some (.ref a), some (.ref b)], [.ref b, .long ((upJ J a 0 ((J a 0) ||| (J b 0))) a 1), .ref a], S, I, (upJ J a 0 ((J a 0) ||| (J b 0))), 0, 0)) rfl trivial ?_
  refine r_getf okX0_join rfl rfl hb rfl rfl ?_
  show Rj _ _ _ _ _ _ (22, [some (.ref a), some (.ref b)], [.long ((upJ J a 0 ((J a 0) ||| (J b 0))) b 1), .long ((upJ J a 0 ((J a 0) ||| (J b 0))) a 1), .ref a], S, I, (upJ J a 0 ((J a 0) ||| (J b 0))), 0, 0)
  refine r_run okX0_join 1 (cs := []) (σ' := (23, [some (.ref a), some (.ref b)], [.long (((upJ J a 0 ((J a 0) ||| (J b 0))) a 1) ||| ((upJ J a 0 ((J a 0) ||| (J b 0))) b 1)), .ref a], S, I, (upJ J a 0 ((J a 0) ||| (J b 0))), 0, 0)) rfl trivial ?_
  refine r_putJ okX0_join rfl rfl ha rfl ?_
  show Rj _ _ _ _ _ _ (26, [some (.ref a), some (.ref b)], [], S, I, (upJ (upJ J a 0 ((J a 0) ||| (J b 0))) a 1 (((upJ J a 0 ((J a 0) ||| (J b 0))) a 1) ||| ((upJ J a 0 ((J a 0) ||| (J b 0))) b 1))), 0, 0)
  refine r_vret okX0_join rfl rfl (Nat.le_refl _) (Nat.le_refl _) ?_
  exact ⟨rfl, rfl, rfl, by simp [ldJ, upJ, hab]⟩
