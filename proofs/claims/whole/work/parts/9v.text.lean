/-! ===== the two texts of the reader: rules for outer cells; String.length, charAt, indexOf ===== -/
section TEXT
variable {γ : GE} {m : MI} {d mc ms : Nat} {Post : PT} {pc : Nat} {L : List (Option Value)} {st rest : List Value} {S : List Sh} {I : AI} {J : AJ} {k u : Nat} {v0 : Int32} {t n : Nat}
theorem r_xval (hm : OKm m) {i z : Nat} (hi : i < 2) (hl : lk (mT m) pc = some (.getfield z, n, v0, t)) (hk : Jvm.Cond.fieldLink (mO m) z "java/lang/String" "value" "[B" ∈ gw_tbl) (K : Rj γ m d mc ms Post (pc + 3, L, .retAddr (2 * i + 2) :: rest, S, I, J, k, u)) : Rj γ m d mc ms Post (pc, L, .retAddr (2 * i + 1) :: rest, S, I, J, k, u) := by
  obtain ⟨hdg, hn0⟩ := hm.ins hl
  have hlen := len_of (k := 2) hn0 rfl
  subst hlen
  intro p e s mid args below meth c hCx H locs ls hL hSim hS
  obtain ⟨hx, hb, hml, hown, hts, hrr, hlk, hnm, hKn, hE, hBs⟩ := id hCx
  exact vk_getf hx hb (hE.2.2.2.1.1 i hi).2.2.1 hS hown (hts _ hk) (fun x h => h) hdg (K p e s mid args below meth c hCx H locs ls hL hSim hS)
theorem r_xcod (hm : OKm m) {i z : Nat} (hi : i < 2) (hl : lk (mT m) pc = some (.getfield z, n, v0, t)) (hk : Jvm.Cond.fieldLink (mO m) z "java/lang/String" "coder" "B" ∈ gw_tbl) (K : Rj γ m d mc ms Post (pc + 3, L, .int 0 :: rest, S, I, J, k, u)) : Rj γ m d mc ms Post (pc, L, .retAddr (2 * i + 1) :: rest, S, I, J, k, u) := by
  obtain ⟨hdg, hn0⟩ := hm.ins hl
  have hlen := len_of (k := 2) hn0 rfl
  subst hlen
  intro p e s mid args below meth c hCx H locs ls hL hSim hS
  obtain ⟨hx, hb, hml, hown, hts, hrr, hlk, hnm, hKn, hE, hBs⟩ := id hCx
  exact vk_getf hx hb (hE.2.2.2.1.1 i hi).2.1 hS hown (hts _ hk) (fun x h => h) hdg (K p e s mid args below meth c hCx H locs ls hL hSim hS)
theorem r_xcmp (hm : OKm m) {z : Nat} (hl : lk (mT m) pc = some (.getstatic z, n, v0, t)) (hk : Jvm.Cond.fieldLink (mO m) z "java/lang/String" "COMPACT_STRINGS" "Z" ∈ gw_tbl) (K : Rj γ m d mc ms Post (pc + 3, L, .int 1 :: rest, S, I, J, k, u)) : Rj γ m d mc ms Post (pc, L, rest, S, I, J, k, u) := by
  obtain ⟨hdg, hn0⟩ := hm.ins hl
  have hlen := len_of (k := 2) hn0 rfl
  subst hlen
  intro p e s mid args below meth c hCx H locs ls hL hSim hS
  obtain ⟨hx, hb, hml, hown, hts, hrr, hlk, hnm, hKn, hE, hBs⟩ := id hCx
  exact va_gets hx hb hE.2.2.2.2.1.1 hS hown (hts _ hk) (fun x h => h) hdg (K p e s mid args below meth c hCx H locs ls hL hSim hS)
theorem r_xfmt (hm : OKm m) {z : Nat} (hl : lk (mT m) pc = some (.getstatic z, n, v0, t)) (hk : Jvm.Cond.fieldLink (mO m) z "jdk/internal/util/Preconditions" "SIOOBE_FORMATTER" "Ljava/util/function/BiFunction;" ∈ gw_tbl) (K1 : Rj γ m d mc ms Post (pc + 3, L, .null :: rest, S, I, J, k, u)) (K2 : Rj γ m d mc ms Post (pc + 3, L, .retAddr 5 :: rest, S, I, J, k, u)) : Rj γ m d mc ms Post (pc, L, rest, S, I, J, k, u) := by
  obtain ⟨hdg, hn0⟩ := hm.ins hl
  have hlen := len_of (k := 2) hn0 rfl
  subst hlen
  intro p e s mid args below meth c hCx H locs ls hL hSim hS
  obtain ⟨hx, hb, hml, hown, hts, hrr, hlk, hnm, hKn, hE, hBs⟩ := id hCx
  rcases hE.2.2.2.2.1.2 with hz | hz
  · exact va_gets hx hb hz hS hown (hts _ hk) (fun x h => h) hdg (K1 p e s mid args below meth c hCx H locs ls hL hSim hS)
  · exact va_gets hx hb hz hS hown (hts _ hk) (fun x h => h) hdg (K2 p e s mid args below meth c hCx H locs ls hL hSim hS)
theorem r_xlen (hm : OKm m) {i : Nat} (hi : i < 2) (hl : lk (mT m) pc = some (.arraylength, n, v0, t)) (K : Rj γ m d mc ms Post (pc + 1, L, .int (nI (txL.getD i 0)) :: rest, S, I, J, k, u)) : Rj γ m d mc ms Post (pc, L, .retAddr (2 * i + 2) :: rest, S, I, J, k, u) := by
  obtain ⟨hdg, hn0⟩ := hm.ins hl
  have hlen := len_of (k := 0) hn0 rfl
  subst hlen
  intro p e s mid args below meth c hCx H locs ls hL hSim hS
  obtain ⟨hx, hb, hml, hown, hts, hrr, hlk, hnm, hKn, hE, hBs⟩ := id hCx
  exact va_tlen hx hb (hE.2.2.2.1.1 i hi).2.2.2 hS rfl hdg (K p e s mid args below meth c hCx H locs ls hL hSim hS)
theorem r_xbal (hm : OKm m) {i : Nat} (hi : i < 2) {x : Int32} (hin : vp_in x (txL.getD i 0)) (hl : lk (mT m) pc = some (.baload, n, v0, t)) (K : Rj γ m d mc ms Post (pc + 1, L, .int ((txB.getD i []).getD x.toNatClampNeg 0) :: rest, S, I, J, k, u)) : Rj γ m d mc ms Post (pc, L, .int x :: .retAddr (2 * i + 2) :: rest, S, I, J, k, u) := by
  obtain ⟨hdg, hn0⟩ := hm.ins hl
  have hlen := len_of (k := 0) hn0 rfl
  subst hlen
  intro p e s mid args below meth c hCx H locs ls hL hSim hS
  obtain ⟨hx, hb, hml, hown, hts, hrr, hlk, hnm, hKn, hE, hBs⟩ := id hCx
  exact va_tb hx hb (hE.2.2.2.1.1 i hi).2.2.2 hS hin rfl hdg (K p e s mid args below meth c hCx H locs ls hL hSim hS)
variable {m' : MI} {d' mc' ms' idx : Nat} {Post' : PT}
theorem r_callX (hm : OKm m) (hm' : OKm m') (as rest : List Value) {i : Nat} (hi : i < 2) (hl : lk (mT m) pc = some (.invokevirtual idx, n, v0, t)) (hst : st = as.reverse ++ .retAddr (2 * i + 1) :: rest) (hok : lk (mG m) idx = some (mY m')) (hki : OKk m') (hkd : mK m' = 1) (hnp : as.length = mP m') (hnoi : ¬ (mY m').name = "<init>") (hcls : (mY m').cls = "java/lang/String") (hd : d' < d) (hkk : k + mc' ≤ mc ∧ u + ms' ≤ ms) (hrs : (rest.map fun v => v.category).sum ≤ 8)
    (hC : Ct γ m' d' mc' ms' (.retAddr (2 * i + 1) :: as) S I J Post') (K : ∀ v S' I' J', Post' v S' I' J' → Rj γ m d mc ms Post (pc + 3, L, v.toList ++ rest, S', I', J', k + mc', u + ms')) : Rj γ m d mc ms Post (pc, L, st, S, I, J, k, u) := by
  obtain ⟨hdg, hn0⟩ := hm.ins hl
  have hlen := len_of (k := 2) hn0 rfl
  subst hlen
  subst hst
  intro p e s mid args below meth c hCx H locs ls hL hSim hS
  obtain ⟨hx, hb, hml, hown, hts, hrr, hlk, hnm, hKn, hE, hBs⟩ := id hCx
  obtain ⟨k1, k2, -, k4, -⟩ := kin_of hki
  obtain ⟨o2, o3⟩ := k4 hkd
  rw [← hnp] at k1
  have o1 : Jvm.Cond.methodLink (mO m) idx (mY m') ∈ gw_tbl := by
    rcases cal_of (hm.1.2.2.2.2.2 _ (lk_mem hok)) with h | ⟨q, hq, q1, q2, q3⟩
    · exact h
    · exfalso
      have h1 := nest_init q hq
      rw [q3] at h1
      exact hnoi h1
  have hT : GoodIn gw_tbl (wsV (mO m) idx (mY m').cls (mY m') (wsM m')) := by
    intro w hw
    unfold wsV at hw
    rcases List.mem_append.mp hw with hw | hw
    · simp only [List.mem_cons, List.not_mem_nil, or_false] at hw
      rcases hw with rfl | rfl | rfl | rfl
      · exact good1 o1
      · exact good1 o2
      · exact good1 o3
      · exact good1 k2
    · exact goodM hm' (by rw [hkd]; decide) w hw
  have hpre : PreV s H (mY m').cls (g_ex γ (2 * i + 1)) (PC γ (.retAddr (2 * i + 1) :: as) S I J) (as.map (rv γ)) := ⟨PC_blind, by rw [hcls]; exact vk_recv (adK := fun i => g_ex γ (2 * i + 1)) hE.2.2.2.1 hi hS, fun U hU hW => ⟨rfl, va_K.moved hW.alike hKn, hE.go hS hU hW, by rw [hU]; exact Nat.le_trans hBs hS.1, by rw [hU]; exact hSim⟩⟩
  refine am_go (γ := γ) (Post := Post') (mc := mc') (ms := ms') (rest := rest.map (rv γ)) (a := (Value.ref (g_ex γ (2 * i + 1)) :: as.map (rv γ)).toArray) (va_runV (As := as.map (rv γ)) ⟨hx, hb, hml, hown, hts⟩ hC (cwV as.length hts hT rfl rfl rfl ⟨rfl, k1⟩ (room_of hm' hd)) hpre rfl (by rw [List.length_map]) hL.1 stk_map (lv_room (by rw [rv_sum]; exact hrs)) hdg hkk) hS (fun v S' I' J' H1 locs1 hp hs hS1 => ?_)
  rw [ret_map]
  exact K v S' I' J' hp p e s mid args below meth c hCx H1 locs1 ls hL hs hS1
end TEXT
def mJ3_checkIndex_8e157 : MI := (ciJ3, yJ3_checkIndex_8e157, cJ3_checkIndex_8e157, 3, (some .int), 0, 3, [(0, .iload_n 0, 1, 0, 0), (1, .ifCond .lt 8, 3, 0, 9), (4, .iload_n 0, 1, 0, 0), (5, .iload_n 1, 1, 0, 0), (6, .if_icmp .lt 10, 3, 0, 16), (9, .aload_n 2, 1, 0, 0), (10, .iload_n 0, 1, 0, 0), (11, .iload_n 1, 1, 0, 0), (12, .invokestatic 95, 3, 0, 0), (15, .athrow, 1, 0, 0), (16, .iload_n 0, 1, 0, 0), (17, .ireturn, 1, 0, 0)])
theorem okJ3_checkIndex_8e157 : OKm mJ3_checkIndex_8e157 := ⟨okcJ3, Or.inr (inT_in (i := 4135) (by decide +kernel)), by decide +kernel, by decide +kernel, by decide +kernel, by decide +kernel, rfl, fun h => by cases h⟩
theorem kkJ3_checkIndex_8e157 : OKk mJ3_checkIndex_8e157 := ⟨1020, 4134, 0, by decide +kernel⟩
theorem t_coder (γ : GE) {S : List Sh} {I : AI} {J : AJ} {i : Nat} (hi : i < 2) : Ct γ mJ0_coder_7d493 0 0 0 [.retAddr (2 * i + 1)] S I J (rI 0 S I J) := by
  refine ct_of okJ0_coder_7d493 (L := [some (.retAddr (2 * i + 1))]) (Nat.le_of_ble_eq_true rfl) rfl ?_
  refine r_xcmp okJ0_coder_7d493 rfl (inT_in (i := 4115) (by decide +kernel)) ?_
  refine r_ifc okJ0_coder_7d493 rfl (fun (h : (1 : Int32) = 0) => absurd h (by decide)) (fun _ => ?_)
  refine r_run okJ0_coder_7d493 1 (cs := []) (σ' := (7, [some (.retAddr (2 * i + 1))], [.retAddr (2 * i + 1)], S, I, J, 0, 0)) rfl trivial ?_
  refine r_xcod okJ0_coder_7d493 hi rfl (inT_in (i := 8125) (by decide +kernel)) ?_
  refine r_run okJ0_coder_7d493 1 (cs := []) (σ' := (14, [some (.retAddr (2 * i + 1))], [.int 0], S, I, J, 0, 0)) rfl trivial ?_
  exact r_iret okJ0_coder_7d493 rfl rfl (by decide +kernel) (Nat.le_refl _) (Nat.le_refl _) ⟨rfl, rfl, rfl, rfl⟩
theorem t_isLatin (γ : GE) {S : List Sh} {I : AI} {J : AJ} {i : Nat} (hi : i < 2) : Ct γ mJ0_isLatin1_aae02 0 0 0 [.retAddr (2 * i + 1)] S I J (rI 1 S I J) := by
  refine ct_of okJ0_isLatin1_aae02 (L := [some (.retAddr (2 * i + 1))]) (Nat.le_of_ble_eq_true rfl) rfl ?_
  refine r_xcmp okJ0_isLatin1_aae02 rfl (inT_in (i := 4115) (by decide +kernel)) ?_
  refine r_ifc okJ0_isLatin1_aae02 rfl (fun (h : (1 : Int32) = 0) => absurd h (by decide)) (fun _ => ?_)
  refine r_run okJ0_isLatin1_aae02 1 (cs := []) (σ' := (7, [some (.retAddr (2 * i + 1))], [.retAddr (2 * i + 1)], S, I, J, 0, 0)) rfl trivial ?_
  refine r_xcod okJ0_isLatin1_aae02 hi rfl (inT_in (i := 8125) (by decide +kernel)) ?_
  refine r_ifc okJ0_isLatin1_aae02 rfl (fun (h : ¬ (0 : Int32) = 0) => absurd rfl h) (fun _ => ?_)
  refine r_run okJ0_isLatin1_aae02 2 (cs := []) (σ' := (18, [some (.retAddr (2 * i + 1))], [.int 1], S, I, J, 0, 0)) rfl trivial ?_
  exact r_iret okJ0_isLatin1_aae02 rfl rfl (by decide +kernel) (Nat.le_refl _) (Nat.le_refl _) ⟨rfl, rfl, rfl, rfl⟩
theorem tx_sh {i : Nat} (hi : i < 2) : nI (txL.getD i 0) >>> ((0 : Int32) &&& 31) = nI (txL.getD i 0) := by
  rcases (by omega : i = 0 ∨ i = 1) with rfl | rfl <;> decide
theorem t_length (γ : GE) {S : List Sh} {I : AI} {J : AJ} {i : Nat} (hi : i < 2) : Ct γ mJ0_length_8abf5 1 0 0 [.retAddr (2 * i + 1)] S I J (rI (nI (txL.getD i 0)) S I J) := by
  refine ct_of okJ0_length_8abf5 (L := [some (.retAddr (2 * i + 1))]) (Nat.le_of_ble_eq_true rfl) rfl ?_
  refine r_run okJ0_length_8abf5 1 (cs := []) (σ' := (1, [some (.retAddr (2 * i + 1))], [.retAddr (2 * i + 1)], S, I, J, 0, 0)) rfl trivial ?_
  refine r_xval okJ0_length_8abf5 hi rfl (inT_in (i := 8124) (by decide +kernel)) ?_
  refine r_xlen okJ0_length_8abf5 hi rfl ?_
  refine r_run okJ0_length_8abf5 1 (cs := []) (σ' := (6, [some (.retAddr (2 * i + 1))], [.retAddr (2 * i + 1), .int (nI (txL.getD i 0))], S, I, J, 0, 0)) rfl trivial ?_
  refine r_callX okJ0_length_8abf5 okJ0_coder_7d493 [] [.int (nI (txL.getD i 0))] hi rfl rfl rfl kkJ0_coder_7d493 rfl rfl (by decide) rfl (by decide) ⟨Nat.le_refl _, Nat.le_refl _⟩ (Nat.le_of_ble_eq_true rfl) (t_coder γ hi) (fun v1 S1 I1 J1 hp => ?_)
  obtain ⟨rfl, rfl, rfl, rfl⟩ := hp
  show Rj _ _ _ _ _ _ (9, [some (.retAddr (2 * i + 1))], [.int 0, .int (nI (txL.getD i 0))], S, I, J, 0, 0)
  refine r_run okJ0_length_8abf5 1 (cs := []) (σ' := (10, [some (.retAddr (2 * i + 1))], [.int (nI (txL.getD i 0) >>> ((0 : Int32) &&& 31))], S, I, J, 0, 0)) rfl trivial ?_
  rw [tx_sh hi]
  exact r_iret okJ0_length_8abf5 rfl rfl rfl (Nat.le_refl _) (Nat.le_refl _) ⟨rfl, rfl, rfl, rfl⟩
theorem t_chka (γ : GE) {S : List Sh} {I : AI} {J : AJ} {x y : Int32} (h0 : ¬ x < 0) (hy : x < y) : Ct γ mJ3_checkIndex_8e157 0 0 0 [.int x, .int y, .null] S I J (rI x S I J) := by
  refine ct_of okJ3_checkIndex_8e157 (L := [some (.int x), some (.int y), some (.null)]) (Nat.le_of_ble_eq_true rfl) rfl ?_
  refine r_run okJ3_checkIndex_8e157 1 (cs := []) (σ' := (1, [some (.int x), some (.int y), some (.null)], [.int x], S, I, J, 0, 0)) rfl trivial ?_
  refine r_ifc okJ3_checkIndex_8e157 rfl (fun (h : x < 0) => absurd h h0) (fun _ => ?_)
  refine r_run okJ3_checkIndex_8e157 2 (cs := []) (σ' := (6, [some (.int x), some (.int y), some (.null)], [.int y, .int x], S, I, J, 0, 0)) rfl trivial ?_
  refine r_icmp okJ3_checkIndex_8e157 rfl (fun _ => ?_) (fun (h : ¬ x < y) => absurd hy h)
  refine r_run okJ3_checkIndex_8e157 1 (cs := []) (σ' := (17, [some (.int x), some (.int y), some (.null)], [.int x], S, I, J, 0, 0)) rfl trivial ?_
  exact r_iret okJ3_checkIndex_8e157 rfl rfl rfl (Nat.le_refl _) (Nat.le_refl _) ⟨rfl, rfl, rfl, rfl⟩
theorem t_chkb (γ : GE) {S : List Sh} {I : AI} {J : AJ} {x y : Int32} (h0 : ¬ x < 0) (hy : x < y) : Ct γ mJ3_checkIndex_8e157 0 0 0 [.int x, .int y, .retAddr 5] S I J (rI x S I J) := by
  refine ct_of okJ3_checkIndex_8e157 (L := [some (.int x), some (.int y), some (.retAddr 5)]) (Nat.le_of_ble_eq_true rfl) rfl ?_
  refine r_run okJ3_checkIndex_8e157 1 (cs := []) (σ' := (1, [some (.int x), some (.int y), some (.retAddr 5)], [.int x], S, I, J, 0, 0)) rfl trivial ?_
  refine r_ifc okJ3_checkIndex_8e157 rfl (fun (h : x < 0) => absurd h h0) (fun _ => ?_)
  refine r_run okJ3_checkIndex_8e157 2 (cs := []) (σ' := (6, [some (.int x), some (.int y), some (.retAddr 5)], [.int y, .int x], S, I, J, 0, 0)) rfl trivial ?_
  refine r_icmp okJ3_checkIndex_8e157 rfl (fun _ => ?_) (fun (h : ¬ x < y) => absurd hy h)
  refine r_run okJ3_checkIndex_8e157 1 (cs := []) (σ' := (17, [some (.int x), some (.int y), some (.retAddr 5)], [.int x], S, I, J, 0, 0)) rfl trivial ?_
  exact r_iret okJ3_checkIndex_8e157 rfl rfl rfl (Nat.le_refl _) (Nat.le_refl _) ⟨rfl, rfl, rfl, rfl⟩
theorem t_chk (γ : GE) {S : List Sh} {I : AI} {J : AJ} {x y : Int32} (h0 : ¬ x < 0) (hy : x < y) : Ct γ mJ0_checkIndex_df160 1 0 0 [.int x, .int y] S I J (rV S I J) := by
  refine ct_of okJ0_checkIndex_df160 (L := [some (.int x), some (.int y)]) (Nat.le_of_ble_eq_true rfl) rfl ?_
  refine r_run okJ0_checkIndex_df160 2 (cs := []) (σ' := (2, [some (.int x), some (.int y)], [.int y, .int x], S, I, J, 0, 0)) rfl trivial ?_
  refine r_xfmt okJ0_checkIndex_df160 rfl (inT_in (i := 4131) (by decide +kernel)) ?_ ?_
  · refine r_callS okJ0_checkIndex_df160 okJ3_checkIndex_8e157 [.int x, .int y, .null] [] rfl rfl rfl kkJ3_checkIndex_8e157 rfl rfl (by decide) (by decide) ⟨Nat.le_refl _, Nat.le_refl _⟩ (Nat.le_of_ble_eq_true rfl) (t_chka γ h0 hy) (fun v1 S1 I1 J1 hp => ?_)
    obtain ⟨rfl, rfl, rfl, rfl⟩ := hp
    show Rj _ _ _ _ _ _ (8, [some (.int x), some (.int y)], [.int x], S, I, J, 0, 0)
    refine r_run okJ0_checkIndex_df160 1 (cs := []) (σ' := (9, [some (.int x), some (.int y)], [], S, I, J, 0, 0)) rfl trivial ?_
    exact r_vret okJ0_checkIndex_df160 rfl rfl (Nat.le_refl _) (Nat.le_refl _) ⟨rfl, rfl, rfl, rfl⟩
  · refine r_callS okJ0_checkIndex_df160 okJ3_checkIndex_8e157 [.int x, .int y, .retAddr 5] [] rfl rfl rfl kkJ3_checkIndex_8e157 rfl rfl (by decide) (by decide) ⟨Nat.le_refl _, Nat.le_refl _⟩ (Nat.le_of_ble_eq_true rfl) (t_chkb γ h0 hy) (fun v1 S1 I1 J1 hp => ?_)
    obtain ⟨rfl, rfl, rfl, rfl⟩ := hp
    show Rj _ _ _ _ _ _ (8, [some (.int x), some (.int y)], [.int x], S, I, J, 0, 0)
    refine r_run okJ0_checkIndex_df160 1 (cs := []) (σ' := (9, [some (.int x), some (.int y)], [], S, I, J, 0, 0)) rfl trivial ?_
    exact r_vret okJ0_checkIndex_df160 rfl rfl (Nat.le_refl _) (Nat.le_refl _) ⟨rfl, rfl, rfl, rfl⟩
theorem ch_WD : ∀ k, k < 83 → ((((txB.getD 0 []).getD k 0) &&& 255).toUInt32 % 65536).toInt32 = WD (k + 1) ∧ narrow .char (.int (WD (k + 1))) = .int (WD (k + 1)) := by decide +kernel
theorem t_chr1 (γ : GE) {S : List Sh} {I : AI} {J : AJ} {k : Nat} (hk : k < 83) : Ct γ mJ1_charAt_3b067 2 0 0 [.retAddr (2 * 0 + 2), .int (nI k)] S I J (rI (WD (k + 1)) S I J) := by
  refine ct_of okJ1_charAt_3b067 (L := [some (.retAddr (2 * 0 + 2)), some (.int (nI k))]) (Nat.le_of_ble_eq_true rfl) rfl ?_
  refine r_run okJ1_charAt_3b067 2 (cs := []) (σ' := (2, [some (.retAddr (2 * 0 + 2)), some (.int (nI k))], [.retAddr (2 * 0 + 2), .int (nI k)], S, I, J, 0, 0)) rfl trivial ?_
  refine r_xlen okJ1_charAt_3b067 (i := 0) (by decide) rfl ?_
  refine r_callS okJ1_charAt_3b067 okJ0_checkIndex_df160 [.int (nI k), .int (nI 83)] [] rfl rfl rfl kkJ0_checkIndex_df160 rfl rfl (by decide) (by decide) ⟨Nat.le_refl _, Nat.le_refl _⟩ (Nat.le_of_ble_eq_true rfl) (t_chk γ (nI_pos (by omega)) (nI_lt hk (by decide))) (fun v1 S1 I1 J1 hp => ?_)
  obtain ⟨rfl, rfl, rfl, rfl⟩ := hp
  show Rj _ _ _ _ _ _ (6, [some (.retAddr (2 * 0 + 2)), some (.int (nI k))], [], S, I, J, 0, 0)
  refine r_run okJ1_charAt_3b067 2 (cs := []) (σ' := (8, [some (.retAddr (2 * 0 + 2)), some (.int (nI k))], [.int (nI k), .retAddr (2 * 0 + 2)], S, I, J, 0, 0)) rfl trivial ?_
  refine r_xbal okJ1_charAt_3b067 (i := 0) (by decide) (show vp_in (nI k) 83 from vin hk (by decide)) rfl ?_
  refine r_run okJ1_charAt_3b067 3 (cs := []) (σ' := (14, [some (.retAddr (2 * 0 + 2)), some (.int (nI k))], [.int ((((txB.getD 0 []).getD (nI k).toNatClampNeg 0) &&& 255).toUInt32 % 65536).toInt32], S, I, J, 0, 0)) rfl trivial ?_
  rw [nI_clamp (by omega), (ch_WD k hk).1]
  exact r_iret okJ1_charAt_3b067 rfl rfl (ch_WD k hk).2 (Nat.le_refl _) (Nat.le_refl _) ⟨rfl, rfl, rfl, rfl⟩
theorem t_charAt (γ : GE) {S : List Sh} {I : AI} {J : AJ} {k : Nat} (hk : k < 83) : Ct γ mJ0_charAt_5068e 3 0 0 [.retAddr 1, .int (nI k)] S I J (rI (WD (k + 1)) S I J) := by
  have hi : 0 < 2 := by decide
  refine ct_of okJ0_charAt_5068e (L := [some (.retAddr (2 * 0 + 1)), some (.int (nI k))]) (Nat.le_of_ble_eq_true rfl) rfl ?_
  refine r_run okJ0_charAt_5068e 1 (cs := []) (σ' := (1, [some (.retAddr (2 * 0 + 1)), some (.int (nI k))], [.retAddr (2 * 0 + 1)], S, I, J, 0, 0)) rfl trivial ?_
  refine r_callX okJ0_charAt_5068e okJ0_isLatin1_aae02 [] [] hi rfl rfl rfl kkJ0_isLatin1_aae02 rfl rfl (by decide) rfl (by decide) ⟨Nat.le_refl _, Nat.le_refl _⟩ (Nat.le_of_ble_eq_true rfl) (t_isLatin γ hi) (fun v1 S1 I1 J1 hp => ?_)
  obtain ⟨rfl, rfl, rfl, rfl⟩ := hp
  show Rj _ _ _ _ _ _ (4, [some (.retAddr (2 * 0 + 1)), some (.int (nI k))], [.int 1], S, I, J, 0, 0)
  refine r_ifc okJ0_charAt_5068e rfl (fun (h : (1 : Int32) = 0) => absurd h (by decide)) (fun _ => ?_)
  refine r_run okJ0_charAt_5068e 1 (cs := []) (σ' := (8, [some (.retAddr (2 * 0 + 1)), some (.int (nI k))], [.retAddr (2 * 0 + 1)], S, I, J, 0, 0)) rfl trivial ?_
  refine r_xval okJ0_charAt_5068e (i := 0) (by decide) rfl (inT_in (i := 8124) (by decide +kernel)) ?_
  refine r_run okJ0_charAt_5068e 1 (cs := []) (σ' := (12, [some (.retAddr (2 * 0 + 1)), some (.int (nI k))], [.int (nI k), .retAddr (2 * 0 + 2)], S, I, J, 0, 0)) rfl trivial ?_
  refine r_callS okJ0_charAt_5068e okJ1_charAt_3b067 [.retAddr (2 * 0 + 2), .int (nI k)] [] rfl rfl rfl kkJ1_charAt_3b067 rfl rfl (by decide) (by decide) ⟨Nat.le_refl _, Nat.le_refl _⟩ (Nat.le_of_ble_eq_true rfl) (t_chr1 γ hk) (fun v1 S1 I1 J1 hp => ?_)
  obtain ⟨rfl, rfl, rfl, rfl⟩ := hp
  show Rj _ _ _ _ _ _ (15, [some (.retAddr (2 * 0 + 1)), some (.int (nI k))], [.int (WD (k + 1))], S, I, J, 0, 0)
  exact r_iret okJ0_charAt_5068e rfl rfl (ch_WD k hk).2 (Nat.le_refl _) (Nat.le_refl _) ⟨rfl, rfl, rfl, rfl⟩
theorem t_lenK (γ : GE) {S : List Sh} {I : AI} {J : AJ} : Ct γ mJ0_length_8abf5 1 0 0 [.retAddr 1] S I J (rI 83 S I J) := t_length γ (i := 0) (by decide)
def ixF (c : Int32) : Nat → Nat → Int32
  | 0, _ => -1
  | j + 1, k => if (txB.getD 1 []).getD k 0 = c.toInt8.toInt32 then nI k else ixF c j (k + 1)
theorem lp_ixc (γ : GE) {S : List Sh} {I : AI} {J : AJ} (c : Int32) : ∀ (j k : Nat) (v : Int32), k + j = 10 → ixF c j k = v → Rj γ mJ1_indexOfChar_4cfef 0 0 0 (rI v S I J) (7, [some (.retAddr (2 * 1 + 2)), some (.int c), some (.int 0), some (.int 10), some (.int c.toInt8.toInt32), some (.int (nI k))], [], S, I, J, 0, 0) := by
  intro j
  induction j with
  | zero =>
    intro k v hj hv
    refine r_run okJ1_indexOfChar_4cfef 2 (cs := []) (σ' := (10, [some (.retAddr (2 * 1 + 2)), some (.int c), some (.int 0), some (.int 10), some (.int c.toInt8.toInt32), some (.int (nI k))], [.int 10, .int (nI k)], S, I, J, 0, 0)) rfl trivial ?_
    refine r_icmp okJ1_indexOfChar_4cfef rfl (fun _ => ?_) (fun (h : ¬ (10 : Int32) ≤ nI k) => absurd (nI_le (a := 10) (by omega) (by omega)) h)
    refine r_run okJ1_indexOfChar_4cfef 1 (cs := []) (σ' := (32, [some (.retAddr (2 * 1 + 2)), some (.int c), some (.int 0), some (.int 10), some (.int c.toInt8.toInt32), some (.int (nI k))], [.int (-1)], S, I, J, 0, 0)) rfl trivial ?_
    exact r_iret okJ1_indexOfChar_4cfef rfl rfl rfl (Nat.le_refl _) (Nat.le_refl _) ⟨by rw [← hv]; rfl, rfl, rfl, rfl⟩
  | succ j ih =>
    intro k v hj hv
    refine r_run okJ1_indexOfChar_4cfef 2 (cs := []) (σ' := (10, [some (.retAddr (2 * 1 + 2)), some (.int c), some (.int 0), some (.int 10), some (.int c.toInt8.toInt32), some (.int (nI k))], [.int 10, .int (nI k)], S, I, J, 0, 0)) rfl trivial ?_
    refine r_icmp okJ1_indexOfChar_4cfef rfl (fun (h : (10 : Int32) ≤ nI k) => absurd h (nI_ge (b := 10) (by omega) (by decide))) (fun _ => ?_)
    refine r_run okJ1_indexOfChar_4cfef 2 (cs := []) (σ' := (16, [some (.retAddr (2 * 1 + 2)), some (.int c), some (.int 0), some (.int 10), some (.int c.toInt8.toInt32), some (.int (nI k))], [.int (nI k), .retAddr (2 * 1 + 2)], S, I, J, 0, 0)) rfl trivial ?_
    refine r_xbal okJ1_indexOfChar_4cfef (i := 1) (by decide) (show vp_in (nI k) 10 from vin (by omega) (by decide)) rfl ?_
    rw [nI_clamp (by omega)]
    refine r_run okJ1_indexOfChar_4cfef 1 (cs := []) (σ' := (19, [some (.retAddr (2 * 1 + 2)), some (.int c), some (.int 0), some (.int 10), some (.int c.toInt8.toInt32), some (.int (nI k))], [.int c.toInt8.toInt32, .int ((txB.getD 1 []).getD k 0)], S, I, J, 0, 0)) rfl trivial ?_
    unfold ixF at hv
    refine r_icmp okJ1_indexOfChar_4cfef rfl (fun (h : ¬ (txB.getD 1 []).getD k 0 = c.toInt8.toInt32) => ?_) (fun h => ?_)
    · rw [if_neg h] at hv
      refine r_run okJ1_indexOfChar_4cfef 2 (cs := []) (σ' := (7, [some (.retAddr (2 * 1 + 2)), some (.int c), some (.int 0), some (.int 10), some (.int c.toInt8.toInt32), some (.int (nI k + 1))], [], S, I, J, 0, 0)) rfl trivial ?_
      rw [← nI_succ]
      exact ih (k + 1) v (by omega) hv
    · have h : (txB.getD 1 []).getD k 0 = c.toInt8.toInt32 := Classical.not_not.mp h
      rw [if_pos h] at hv
      refine r_run okJ1_indexOfChar_4cfef 1 (cs := []) (σ' := (24, [some (.retAddr (2 * 1 + 2)), some (.int c), some (.int 0), some (.int 10), some (.int c.toInt8.toInt32), some (.int (nI k))], [.int (nI k)], S, I, J, 0, 0)) rfl trivial ?_
      exact r_iret okJ1_indexOfChar_4cfef rfl rfl rfl (Nat.le_refl _) (Nat.le_refl _) ⟨by rw [hv], rfl, rfl, rfl⟩
theorem t_ixc (γ : GE) {S : List Sh} {I : AI} {J : AJ} (c : Int32) : Ct γ mJ1_indexOfChar_4cfef 0 0 0 [.retAddr (2 * 1 + 2), .int c, .int 0, .int 10] S I J (rI (ixF c 10 0) S I J) := by
  refine ct_of okJ1_indexOfChar_4cfef (L := [some (.retAddr (2 * 1 + 2)), some (.int c), some (.int 0), some (.int 10), none, none]) (Nat.le_of_ble_eq_true rfl) rfl ?_
  refine r_run okJ1_indexOfChar_4cfef 5 (cs := []) (σ' := (7, [some (.retAddr (2 * 1 + 2)), some (.int c), some (.int 0), some (.int 10), some (.int c.toInt8.toInt32), some (.int 0)], [], S, I, J, 0, 0)) rfl trivial ?_
  have h := lp_ixc γ (S := S) (I := I) (J := J) c 10 0 _ (by omega) rfl
  rw [nI_0] at h
  exact h
theorem t_can (γ : GE) {S : List Sh} {I : AI} {J : AJ} {n : Nat} (hn : n < 256) : Ct γ mJ1_canEncode_9a6ad 0 0 0 [.int (nI n)] S I J (rI 1 S I J) := by
  refine ct_of okJ1_canEncode_9a6ad (L := [some (.int (nI n))]) (Nat.le_of_ble_eq_true rfl) rfl ?_
  refine r_run okJ1_canEncode_9a6ad 1 (cs := []) (σ' := (1, [some (.int (nI n))], [.int (nI n)], S, I, J, 0, 0)) rfl trivial ?_
  refine r_ifc okJ1_canEncode_9a6ad rfl (fun (h : nI n < 0) => absurd h (nI_pos (by omega))) (fun _ => ?_)
  refine r_run okJ1_canEncode_9a6ad 2 (cs := []) (σ' := (8, [some (.int (nI n))], [.int 255, .int (nI n)], S, I, J, 0, 0)) rfl trivial ?_
  refine r_icmp okJ1_canEncode_9a6ad rfl (fun (h : (255 : Int32) < nI n) => absurd h (nI_nlt (a := 255) (b := n) (by omega) (by decide))) (fun _ => ?_)
  refine r_run okJ1_canEncode_9a6ad 2 (cs := []) (σ' := (16, [some (.int (nI n))], [.int 1], S, I, J, 0, 0)) rfl trivial ?_
  exact r_iret okJ1_canEncode_9a6ad rfl rfl (by decide +kernel) (Nat.le_refl _) (Nat.le_refl _) ⟨rfl, rfl, rfl, rfl⟩
theorem t_ix1 (γ : GE) {S : List Sh} {I : AI} {J : AJ} {n : Nat} (hn : n < 256) : Ct γ mJ1_indexOf_4cfef 1 0 0 [.retAddr (2 * 1 + 2), .int (nI n), .int 0, .int 10] S I J (rI (ixF (nI n) 10 0) S I J) := by
  refine ct_of okJ1_indexOf_4cfef (L := [some (.retAddr (2 * 1 + 2)), some (.int (nI n)), some (.int 0), some (.int 10)]) (Nat.le_of_ble_eq_true rfl) rfl ?_
  refine r_run okJ1_indexOf_4cfef 1 (cs := []) (σ' := (1, [some (.retAddr (2 * 1 + 2)), some (.int (nI n)), some (.int 0), some (.int 10)], [.int (nI n)], S, I, J, 0, 0)) rfl trivial ?_
  refine r_callS okJ1_indexOf_4cfef okJ1_canEncode_9a6ad [.int (nI n)] [] rfl rfl rfl kkJ1_canEncode_9a6ad rfl rfl (by decide) (by decide) ⟨Nat.le_refl _, Nat.le_refl _⟩ (Nat.le_of_ble_eq_true rfl) (t_can γ hn) (fun v1 S1 I1 J1 hp => ?_)
  obtain ⟨rfl, rfl, rfl, rfl⟩ := hp
  show Rj _ _ _ _ _ _ (4, [some (.retAddr (2 * 1 + 2)), some (.int (nI n)), some (.int 0), some (.int 10)], [.int 1], S, I, J, 0, 0)
  refine r_ifc okJ1_indexOf_4cfef rfl (fun _ => ?_) (fun (h : ¬ ¬ (1 : Int32) = 0) => absurd (by decide) h)
  refine r_run okJ1_indexOf_4cfef 2 (cs := []) (σ' := (11, [some (.retAddr (2 * 1 + 2)), some (.int (nI n)), some (.int 0), some (.int 10)], [.int 0, .int 0], S, I, J, 0, 0)) rfl trivial ?_
  refine r_mmax okJ1_indexOf_4cfef rfl rfl ⟨Nat.le_refl _, Nat.le_refl _⟩ (Nat.le_of_ble_eq_true rfl) ?_
  refine r_run okJ1_indexOf_4cfef 3 (cs := []) (σ' := (17, [some (.retAddr (2 * 1 + 2)), some (.int (nI n)), some (.int 0), some (.int 10)], [.retAddr (2 * 1 + 2), .int 10], S, I, J, 0, 0)) rfl trivial ?_
  refine r_xlen okJ1_indexOf_4cfef (i := 1) (by decide) rfl ?_
  refine r_mmin okJ1_indexOf_4cfef rfl rfl ⟨Nat.le_refl _, Nat.le_refl _⟩ (Nat.le_of_ble_eq_true rfl) ?_
  refine r_run okJ1_indexOf_4cfef 3 (cs := []) (σ' := (24, [some (.retAddr (2 * 1 + 2)), some (.int (nI n)), some (.int 0), some (.int 10)], [.int 10, .int 0], S, I, J, 0, 0)) rfl trivial ?_
  refine r_icmp okJ1_indexOf_4cfef rfl (fun _ => ?_) (fun (h : ¬ (0 : Int32) < 10) => absurd (by decide) h)
  refine r_run okJ1_indexOf_4cfef 4 (cs := []) (σ' := (33, [some (.retAddr (2 * 1 + 2)), some (.int (nI n)), some (.int 0), some (.int 10)], [.int 10, .int 0, .int (nI n), .retAddr (2 * 1 + 2)], S, I, J, 0, 0)) rfl trivial ?_
  refine r_callS okJ1_indexOf_4cfef okJ1_indexOfChar_4cfef [.retAddr (2 * 1 + 2), .int (nI n), .int 0, .int 10] [] rfl rfl rfl kkJ1_indexOfChar_4cfef rfl rfl (by decide) (by decide) ⟨Nat.le_refl _, Nat.le_refl _⟩ (Nat.le_of_ble_eq_true rfl) (t_ixc γ (nI n)) (fun v1 S1 I1 J1 hp => ?_)
  obtain ⟨rfl, rfl, rfl, rfl⟩ := hp
  show Rj _ _ _ _ _ _ (36, [some (.retAddr (2 * 1 + 2)), some (.int (nI n)), some (.int 0), some (.int 10)], [.int (ixF (nI n) 10 0)], S, I, J, 0, 0)
  exact r_iret okJ1_indexOf_4cfef rfl rfl rfl (Nat.le_refl _) (Nat.le_refl _) ⟨rfl, rfl, rfl, rfl⟩
theorem t_ix2 (γ : GE) {S : List Sh} {I : AI} {J : AJ} {n : Nat} (hn : n < 256) : Ct γ mJ0_indexOf_7cf53 2 0 0 [.retAddr (2 * 1 + 1), .int (nI n), .int 0] S I J (rI (ixF (nI n) 10 0) S I J) := by
  have hi : 1 < 2 := by decide
  refine ct_of okJ0_indexOf_7cf53 (L := [some (.retAddr (2 * 1 + 1)), some (.int (nI n)), some (.int 0)]) (Nat.le_of_ble_eq_true rfl) rfl ?_
  refine r_run okJ0_indexOf_7cf53 1 (cs := []) (σ' := (1, [some (.retAddr (2 * 1 + 1)), some (.int (nI n)), some (.int 0)], [.retAddr (2 * 1 + 1)], S, I, J, 0, 0)) rfl trivial ?_
  refine r_callX okJ0_indexOf_7cf53 okJ0_isLatin1_aae02 [] [] hi rfl rfl rfl kkJ0_isLatin1_aae02 rfl rfl (by decide) rfl (by decide) ⟨Nat.le_refl _, Nat.le_refl _⟩ (Nat.le_of_ble_eq_true rfl) (t_isLatin γ hi) (fun v1 S1 I1 J1 hp => ?_)
  obtain ⟨rfl, rfl, rfl, rfl⟩ := hp
  show Rj _ _ _ _ _ _ (4, [some (.retAddr (2 * 1 + 1)), some (.int (nI n)), some (.int 0)], [.int 1], S, I, J, 0, 0)
  refine r_ifc okJ0_indexOf_7cf53 rfl (fun (h : (1 : Int32) = 0) => absurd h (by decide)) (fun _ => ?_)
  refine r_run okJ0_indexOf_7cf53 1 (cs := []) (σ' := (8, [some (.retAddr (2 * 1 + 1)), some (.int (nI n)), some (.int 0)], [.retAddr (2 * 1 + 1)], S, I, J, 0, 0)) rfl trivial ?_
  refine r_xval okJ0_indexOf_7cf53 (i := 1) (by decide) rfl (inT_in (i := 8124) (by decide +kernel)) ?_
  refine r_run okJ0_indexOf_7cf53 3 (cs := []) (σ' := (14, [some (.retAddr (2 * 1 + 1)), some (.int (nI n)), some (.int 0)], [.retAddr (2 * 1 + 1), .int 0, .int (nI n), .retAddr (2 * 1 + 2)], S, I, J, 0, 0)) rfl trivial ?_
  refine r_callX okJ0_indexOf_7cf53 okJ0_length_8abf5 [] [.int 0, .int (nI n), .retAddr (2 * 1 + 2)] hi rfl rfl rfl kkJ0_length_8abf5 rfl rfl (by decide) rfl (by decide) ⟨Nat.le_refl _, Nat.le_refl _⟩ (Nat.le_of_ble_eq_true rfl) (t_length γ hi) (fun v1 S1 I1 J1 hp => ?_)
  obtain ⟨rfl, rfl, rfl, rfl⟩ := hp
  show Rj _ _ _ _ _ _ (17, [some (.retAddr (2 * 1 + 1)), some (.int (nI n)), some (.int 0)], [.int 10, .int 0, .int (nI n), .retAddr (2 * 1 + 2)], S, I, J, 0, 0)
  refine r_callS okJ0_indexOf_7cf53 okJ1_indexOf_4cfef [.retAddr (2 * 1 + 2), .int (nI n), .int 0, .int 10] [] rfl rfl rfl kkJ1_indexOf_4cfef rfl rfl (by decide) (by decide) ⟨Nat.le_refl _, Nat.le_refl _⟩ (Nat.le_of_ble_eq_true rfl) (t_ix1 γ hn) (fun v1 S1 I1 J1 hp => ?_)
  obtain ⟨rfl, rfl, rfl, rfl⟩ := hp
  show Rj _ _ _ _ _ _ (20, [some (.retAddr (2 * 1 + 1)), some (.int (nI n)), some (.int 0)], [.int (ixF (nI n) 10 0)], S, I, J, 0, 0)
  refine r_run okJ0_indexOf_7cf53 1 (cs := []) (σ' := (36, [some (.retAddr (2 * 1 + 1)), some (.int (nI n)), some (.int 0)], [.int (ixF (nI n) 10 0)], S, I, J, 0, 0)) rfl trivial ?_
  exact r_iret okJ0_indexOf_7cf53 rfl rfl rfl (Nat.le_refl _) (Nat.le_refl _) ⟨rfl, rfl, rfl, rfl⟩
theorem t_indexOf (γ : GE) {S : List Sh} {I : AI} {J : AJ} {n : Nat} (hn : n < 256) : Ct γ mJ0_indexOf_0f7a4 3 0 0 [.retAddr 3, .int (nI n)] S I J (rI (ixF (nI n) 10 0) S I J) := by
  have hi : 1 < 2 := by decide
  refine ct_of okJ0_indexOf_0f7a4 (L := [some (.retAddr (2 * 1 + 1)), some (.int (nI n))]) (Nat.le_of_ble_eq_true rfl) rfl ?_
  refine r_run okJ0_indexOf_0f7a4 3 (cs := []) (σ' := (3, [some (.retAddr (2 * 1 + 1)), some (.int (nI n))], [.int 0, .int (nI n), .retAddr (2 * 1 + 1)], S, I, J, 0, 0)) rfl trivial ?_
  refine r_callX okJ0_indexOf_0f7a4 okJ0_indexOf_7cf53 [.int (nI n), .int 0] [] hi rfl rfl rfl kkJ0_indexOf_7cf53 rfl rfl (by decide) rfl (by decide) ⟨Nat.le_refl _, Nat.le_refl _⟩ (Nat.le_of_ble_eq_true rfl) (t_ix2 γ hn) (fun v1 S1 I1 J1 hp => ?_)
  obtain ⟨rfl, rfl, rfl, rfl⟩ := hp
  show Rj _ _ _ _ _ _ (6, [some (.retAddr (2 * 1 + 1)), some (.int (nI n))], [.int (ixF (nI n) 10 0)], S, I, J, 0, 0)
  exact r_iret okJ0_indexOf_0f7a4 rfl rfl rfl (Nat.le_refl _) (Nat.le_refl _) ⟨rfl, rfl, rfl, rfl⟩
theorem ix_si : ∀ n, n < 256 → decide (ixF (nI n) 10 0 < 0) = !siB (nI n) ∧ ((nI n).toUInt32 % 65536).toInt32 = nI n := by decide +kernel
