/-! ===== objects and arrays that are made ===== -/
def dfl : Kd → Value
  | .inl 0 => .int 0
  | .inl (_ + 1) => .long 0
  | .inr _ => .null
def nul : Kd → Bool
  | .inr (some _) => false
  | _ => true
theorem dfl_fv {γ : GE} {k : Nat} {kd : Kd} (h : nul kd = true) : fv γ (fun _ => 0) (fun _ => 0) k kd = dfl kd := by
  match kd, h with
  | .inl 0, _ => rfl
  | .inl (_ + 1), _ => rfl
  | .inr none, _ => rfl
theorem blkOK : ∀ (ci : Nat) (r : vw_C), vwCl[ci]? = some r → ∀ k, k < r.2.2 → ∃ kd, (blk ci)[k]? = some kd ∧ nul kd = true ∧ dfl kd = defaultValue (tyC ci k) := by
  intro ci r h
  have key : ∀ c ∈ List.range 13, ∀ k ∈ List.range (match vwCl[c]? with | some r => r.2.2 | none => 0), (match (blk c)[k]? with | some kd => nul kd && decide (dfl kd = defaultValue (tyC c k)) | none => false) = true := by decide +kernel
  intro k hk
  have hc : ci < 13 := (List.getElem?_eq_some_iff.mp h).1
  have h1 := key ci (List.mem_range.mpr hc) k (by rw [h]; exact List.mem_range.mpr hk)
  split at h1
  · rename_i kd hkd
    rw [Bool.and_eq_true, decide_eq_true_eq] at h1
    exact ⟨kd, hkd, h1.1, h1.2⟩
  · cases h1
theorem zeI_at {I : AI} {n : Nat} : zeI I n n = fun _ => 0 := by funext b; simp [zeI]
theorem zeJ_at {J : AJ} {n : Nat} : zeJ J n n = fun _ => 0 := by funext b; simp [zeJ]
theorem zeI_ne {I : AI} {n a : Nat} (h : a ≠ n) : zeI I n a = I a := by funext b; simp [zeI, h]
theorem zeJ_ne {J : AJ} {n a : Nat} (h : a ≠ n) : zeJ J n a = J a := by funext b; simp [zeJ, h]
section ALLOC
variable {γ : GE} {m : MI} {d mc ms : Nat} {Post : PT} {pc : Nat} {L : List (Option Value)} {st rest : List Value} {S : List Sh} {I : AI} {J : AJ} {k u : Nat} {v0 : Int32} {t n : Nat}
theorem r_new (hm : OKm m) {z ci : Nat} {r : vw_C} (hl : lk (mT m) pc = some (.new z, n, v0, t)) (hz : lk m.1.2.2.2.1 z = some ci) (hr : vwCl[ci]? = some r) (hk : k + 1 ≤ mc) (hu : u + r.2.2 ≤ ms) (K : Rj γ m d mc ms Post (pc + 3, L, .ref S.length :: st, S ++ [.inr (ci, blk ci)], zeI I S.length, zeJ J S.length, k + 1, u + r.2.2)) : Rj γ m d mc ms Post (pc, L, st, S, I, J, k, u) := by
  obtain ⟨hdg, hn0⟩ := hm.ins hl
  have hlen := len_of (k := 2) hn0 rfl
  subst hlen
  intro p e s mid args below meth c hCx H locs ls hL hSim hS
  obtain ⟨hx, hb, hml, hown, hts, hrr, hlk, hnm, hKn, hE, hBs⟩ := id hCx
  obtain ⟨hin, hty, -, hinst, hini⟩ := clsOK ci r hr
  obtain ⟨pp, hcl⟩ := hm.1.2.2.1 _ (lk_mem hz)
  unfold newOK at hcl
  simp only [hr] at hcl
  have hKc := hKn.1 ci _ hr
  have had : g_ad γ S.length = H.size := hSim.2.2 0
  refine W.newcK hx hb hown (hts _ (inT_in hcl)) (hts _ hinst) (hts _ hini) rfl hdg hk hu hKc.2.1 rfl fun H1 kC hkC e1 z1 o1 => ?_
  have hSim1 := hSim.push (I' := zeI I S.length) (J' := zeJ J S.length) (sh := .inr (ci, blk ci)) (Nat.le_trans hBs hS.1) (fun a h => zeI_ne h) (fun a h => zeJ_ne h) (by
    refine ⟨r, hr, ?_⟩
    rw [← had] at e1
    refine (u_born (tyC ci) hts hin hKc hkC e1 hty).to (fun j hj => ?_)
    obtain ⟨kd, k1, k2, k3⟩ := blkOK ci r hr j hj
    rw [zeI_at, zeJ_at, vp_V, List.getD_eq_getElem?_getD, fsl_get k1, dfl_fv k2, k3]
    rfl) z1 o1
  have hS1 : va_S (g_A γ) s.heap H1 locs := ⟨Nat.le_trans hS.1 (by omega), fun x h1 h2 => (o1 x (Nat.lt_of_lt_of_le h1 hS.1)).trans (hS.2.1 x h1 h2), hS.2.2⟩
  have hK := K p e s mid args below meth c hCx H1 locs ls hL hSim1 hS1
  show W p (g_l γ) e (rmo d mc ms) s mid args below meth c H1 locs (k + 1) (u + r.2.2) _ (F0 mid (pc + 3) ls (.ref H.size :: st.map (rv γ)))
  rw [← had]
  exact hK
theorem arrT {s : State} (hKn : Kn γ s) {ty : FieldType} {cA : ClassId} {j : Nat} (hj : (g_tys γ)[j]? = some (g_C γ ty, ty)) (h : s.vm.findClass ("[" ++ ty.toString) = some cA) : cA = g_C γ ty := by
  have h1 := (hKn.2 j _ hj).2
  cases ty with
  | object C =>
    obtain ⟨kA, comp, -, -, -, h4⟩ := h1
    exact Option.some.inj (h.symm.trans h4)
  | _ => exact Option.some.inj (h.symm.trans h1)
theorem acl_i : inT 1055 (Jvm.Cond.arrayClass .int) = true := by decide +kernel
theorem r_newa_i (hm : OKm m) {x : Int32} {N : Nat} (hl : lk (mT m) pc = some (.newarray .int, n, v0, t)) (hx0 : ¬ x < 0) (hN : x.toNatClampNeg = N) (hNb : N * 8 ≤ 536870912) (hk : k + 1 ≤ mc) (hu : u + N ≤ ms) (K : Rj γ m d mc ms Post (pc + 2, L, .ref S.length :: rest, S ++ [.inl (.int, N, [])], zeI I S.length, zeJ J S.length, k + 1, u + N)) : Rj γ m d mc ms Post (pc, L, .int x :: rest, S, I, J, k, u) := by
  obtain ⟨hdg, hn0⟩ := hm.ins hl
  have hlen := len_of (k := 1) hn0 rfl
  subst hlen
  intro p e s mid args below meth c hCx H locs ls hL hSim hS
  obtain ⟨hx, hb, hml, hown, hts, hrr, hlk, hnm, hKn, hE, hBs⟩ := id hCx
  have had : g_ad γ S.length = H.size := hSim.2.2 0
  refine va_newaK (atype := .int) hx hb (hts _ (inT_in acl_i)) rfl hdg rfl hx0 hN (Nat.le_trans (Nat.mul_le_mul_left N (by decide)) hNb) hk hu rfl fun H1 cA e1 z1 o1 hAr hNm => ?_
  have hcA : cA = g_C γ .int := arrT hKn (j := 0) rfl hNm
  subst hcA
  have hSim1 := hSim.push (I' := zeI I S.length) (J' := zeJ J S.length) (sh := .inl (.int, N, [])) (Nat.le_trans hBs hS.1) (fun a h => zeI_ne h) (fun a h => zeJ_ne h) (by
    show H1[g_ad γ S.length]? = some (vp_cell _ _)
    rw [had, e1, zeI_at, zeJ_at]
    rfl) z1 o1
  have hS1 : va_S (g_A γ) s.heap H1 locs := ⟨Nat.le_trans hS.1 (by omega), fun x h1 h2 => (o1 x (Nat.lt_of_lt_of_le h1 hS.1)).trans (hS.2.1 x h1 h2), hS.2.2⟩
  have hK := K p e s mid args below meth c hCx H1 locs ls hL hSim1 hS1
  show W p (g_l γ) e (rmo d mc ms) s mid args below meth c H1 locs (k + 1) (u + N) _ (F0 mid (pc + 2) ls (.ref H.size :: rest.map (rv γ)))
  rw [← had]
  exact hK
theorem acl_l : inT 1187 (Jvm.Cond.arrayClass .long) = true := by decide +kernel
theorem r_newa_l (hm : OKm m) {x : Int32} {N : Nat} (hl : lk (mT m) pc = some (.newarray .long, n, v0, t)) (hx0 : ¬ x < 0) (hN : x.toNatClampNeg = N) (hNb : N * 8 ≤ 536870912) (hk : k + 1 ≤ mc) (hu : u + N ≤ ms) (K : Rj γ m d mc ms Post (pc + 2, L, .ref S.length :: rest, S ++ [.inl (.long, N, [])], zeI I S.length, zeJ J S.length, k + 1, u + N)) : Rj γ m d mc ms Post (pc, L, .int x :: rest, S, I, J, k, u) := by
  obtain ⟨hdg, hn0⟩ := hm.ins hl
  have hlen := len_of (k := 1) hn0 rfl
  subst hlen
  intro p e s mid args below meth c hCx H locs ls hL hSim hS
  obtain ⟨hx, hb, hml, hown, hts, hrr, hlk, hnm, hKn, hE, hBs⟩ := id hCx
  have had : g_ad γ S.length = H.size := hSim.2.2 0
  refine va_newaK (atype := .long) hx hb (hts _ (inT_in acl_l)) rfl hdg rfl hx0 hN (Nat.le_trans (Nat.mul_le_mul_left N (by decide)) hNb) hk hu rfl fun H1 cA e1 z1 o1 hAr hNm => ?_
  have hcA : cA = g_C γ .long := arrT hKn (j := 1) rfl hNm
  subst hcA
  have hSim1 := hSim.push (I' := zeI I S.length) (J' := zeJ J S.length) (sh := .inl (.long, N, [])) (Nat.le_trans hBs hS.1) (fun a h => zeI_ne h) (fun a h => zeJ_ne h) (by
    show H1[g_ad γ S.length]? = some (vp_cell _ _)
    rw [had, e1, zeI_at, zeJ_at]
    rfl) z1 o1
  have hS1 : va_S (g_A γ) s.heap H1 locs := ⟨Nat.le_trans hS.1 (by omega), fun x h1 h2 => (o1 x (Nat.lt_of_lt_of_le h1 hS.1)).trans (hS.2.1 x h1 h2), hS.2.2⟩
  have hK := K p e s mid args below meth c hCx H1 locs ls hL hSim1 hS1
  show W p (g_l γ) e (rmo d mc ms) s mid args below meth c H1 locs (k + 1) (u + N) _ (F0 mid (pc + 2) ls (.ref H.size :: rest.map (rv γ)))
  rw [← had]
  exact hK
theorem acl_z : inT 1233 (Jvm.Cond.arrayClass .boolean) = true := by decide +kernel
theorem r_newa_z (hm : OKm m) {x : Int32} {N : Nat} (hl : lk (mT m) pc = some (.newarray .boolean, n, v0, t)) (hx0 : ¬ x < 0) (hN : x.toNatClampNeg = N) (hNb : N * 8 ≤ 536870912) (hk : k + 1 ≤ mc) (hu : u + N ≤ ms) (K : Rj γ m d mc ms Post (pc + 2, L, .ref S.length :: rest, S ++ [.inl (.boolean, N, [])], zeI I S.length, zeJ J S.length, k + 1, u + N)) : Rj γ m d mc ms Post (pc, L, .int x :: rest, S, I, J, k, u) := by
  obtain ⟨hdg, hn0⟩ := hm.ins hl
  have hlen := len_of (k := 1) hn0 rfl
  subst hlen
  intro p e s mid args below meth c hCx H locs ls hL hSim hS
  obtain ⟨hx, hb, hml, hown, hts, hrr, hlk, hnm, hKn, hE, hBs⟩ := id hCx
  have had : g_ad γ S.length = H.size := hSim.2.2 0
  refine va_newaK (atype := .boolean) hx hb (hts _ (inT_in acl_z)) rfl hdg rfl hx0 hN (Nat.le_trans (Nat.mul_le_mul_left N (by decide)) hNb) hk hu rfl fun H1 cA e1 z1 o1 hAr hNm => ?_
  have hcA : cA = g_C γ .boolean := arrT hKn (j := 2) rfl hNm
  subst hcA
  have hSim1 := hSim.push (I' := zeI I S.length) (J' := zeJ J S.length) (sh := .inl (.boolean, N, [])) (Nat.le_trans hBs hS.1) (fun a h => zeI_ne h) (fun a h => zeJ_ne h) (by
    show H1[g_ad γ S.length]? = some (vp_cell _ _)
    rw [had, e1, zeI_at, zeJ_at]
    rfl) z1 o1
  have hS1 : va_S (g_A γ) s.heap H1 locs := ⟨Nat.le_trans hS.1 (by omega), fun x h1 h2 => (o1 x (Nat.lt_of_lt_of_le h1 hS.1)).trans (hS.2.1 x h1 h2), hS.2.2⟩
  have hK := K p e s mid args below meth c hCx H1 locs ls hL hSim1 hS1
  show W p (g_l γ) e (rmo d mc ms) s mid args below meth c H1 locs (k + 1) (u + N) _ (F0 mid (pc + 2) ls (.ref H.size :: rest.map (rv γ)))
  rw [← had]
  exact hK
theorem r_anew (hm : OKm m) {x : Int32} {N z ci : Nat} {r : vw_C} (hl : lk (mT m) pc = some (.anewarray z, n, v0, t)) (hz : lk m.1.2.2.2.2.1 z = some ci) (hr : vwCl[ci]? = some r) (hx0 : ¬ x < 0) (hN : x.toNatClampNeg = N) (hNb : N * 8 ≤ 536870912) (hk : k + 1 ≤ mc) (hu : u + N ≤ ms) (K : Rj γ m d mc ms Post (pc + 3, L, .ref S.length :: rest, S ++ [.inl (.object r.1, N, List.replicate N none)], zeI I S.length, zeJ J S.length, k + 1, u + N)) : Rj γ m d mc ms Post (pc, L, .int x :: rest, S, I, J, k, u) := by
  obtain ⟨hdg, hn0⟩ := hm.ins hl
  have hlen := len_of (k := 2) hn0 rfl
  subst hlen
  subst hN
  intro p e s mid args below meth c hCx H locs ls hL hSim hS
  obtain ⟨hx, hb, hml, hown, hts, hrr, hlk, hnm, hKn, hE, hBs⟩ := id hCx
  obtain ⟨pp, hcl⟩ := hm.1.2.2.2.1 _ (lk_mem hz)
  unfold arrOK at hcl
  simp only [hr, Bool.and_eq_true, Bool.or_eq_true] at hcl
  have had : g_ad γ S.length = H.size := hSim.2.2 0
  have hov : va_AO r.1 s ∧ ∃ j : Nat, (g_tys γ)[j]? = some (g_C γ (FieldType.object r.1), FieldType.object r.1) := by
    rcases hcl.2 with h | h
    · have h : ci = 0 := Nat.eq_of_beq_eq_true h
      rw [h] at hr
      cases hr
      exact ⟨hE.2.2.2.2.2.2.2.2.1, 3, rfl⟩
    · have h : ci = 4 := Nat.eq_of_beq_eq_true h
      rw [h] at hr
      cases hr
      exact ⟨hE.2.2.2.2.2.2.2.2.2, 4, rfl⟩
  obtain ⟨hov, j, hj⟩ := hov
  refine W.anew hx hb hown (hts _ (inT_in hcl.1)) (va_AO.use hov) rfl hdg rfl hx0 (by omega) hk hu fun cA kA comp f1 f2 f3 f4 => ?_
  generalize hH1 : H.push ({ cls := cA, slots := Array.replicate x.toNatClampNeg .null, vm := .none } : Cell) = H1
  have z1 : H1.size = H.size + 1 := by rw [← hH1, Array.size_push]
  have e1 : H1[H.size]? = some (arrV cA x.toNatClampNeg (fun _ => .null)) := by rw [← hH1, Array.getElem?_push_size, ← arrV_new]
  have o1 : ∀ q : Nat, q < H.size → H1[q]? = H[q]? := fun q hq => by rw [← hH1, Array.getElem?_push, if_neg (Nat.ne_of_lt hq)]
  have hcA : cA = g_C γ (.object r.1) := arrT hKn hj f1
  subst hcA
  have hSim1 := hSim.push (I' := zeI I S.length) (J' := zeJ J S.length) (sh := .inl (.object r.1, x.toNatClampNeg, List.replicate x.toNatClampNeg none)) (Nat.le_trans hBs hS.1) (fun a h => zeI_ne h) (fun a h => zeJ_ne h) (by
    show H1[g_ad γ S.length]? = some (vp_cell _ (_, .inr (.inr (.inr (.inr _)))))
    rw [had, e1, vp_cell_q]
    congr 2
    funext q
    show Value.null = va_rf (((List.replicate x.toNatClampNeg none).getD q none).map (g_ad γ))
    rw [List.getD_eq_getElem?_getD, List.getElem?_replicate]
    split <;> rfl) z1 o1
  have hS1 : va_S (g_A γ) s.heap H1 locs := ⟨Nat.le_trans hS.1 (by omega), fun x h1 h2 => (o1 x (Nat.lt_of_lt_of_le h1 hS.1)).trans (hS.2.1 x h1 h2), hS.2.2⟩
  have hK := K p e s mid args below meth c hCx H1 locs ls hL hSim1 hS1
  show W p (g_l γ) e (rmo d mc ms) s mid args below meth c H1 locs (k + 1) (u + x.toNatClampNeg) _ (F0 mid (pc + 3) ls (.ref H.size :: rest.map (rv γ)))
  rw [← had]
  exact hK
theorem r_aast (hm : OKm m) {x : Int32} {N a b ci : Nat} {r : vw_C} {ks : List Kd} {rs : List (Option Nat)} (hl : lk (mT m) pc = some (.aastore, n, v0, t)) (ha : S[a]? = some (.inl (.object r.1, N, rs))) (hb0 : S[b]? = some (.inr (ci, ks))) (hr : vwCl[ci]? = some r) (hci : ci = 0 ∨ ci = 4) (hin : vp_in x N) (hrs : rs.length = N) (K : Rj γ m d mc ms Post (pc + 1, L, rest, S.set a (.inl (.object r.1, N, rs.set x.toNatClampNeg (some b))), I, J, k, u)) : Rj γ m d mc ms Post (pc, L, .ref b :: .int x :: .ref a :: rest, S, I, J, k, u) := by
  obtain ⟨hdg, hn0⟩ := hm.ins hl
  have hlen := len_of (k := 0) hn0 rfl
  subst hlen
  intro p e s mid args below meth c hCx H locs ls hL hSim hS
  obtain ⟨hx, hb, hml, hown, hts, hrr, hlk, hnm, hKn, hE, hBs⟩ := id hCx
  have hlt : x.toNatClampNeg < N := Nat.not_le.mp fun q => hin (Or.inr q)
  have h0 : ¬ x < 0 := fun q => hin (Or.inl q)
  obtain ⟨r', hr', cellV, g1, g2, g3, -⟩ := hSim.1 b _ (wld_get hb0)
  have hcls := (hKn.1 ci r hr).2
  have hj : ∃ j : Nat, (g_tys γ)[j]? = some (g_C γ (FieldType.object r.1), FieldType.object r.1) := by
    rcases hci with rfl | rfl
    · cases hr; exact ⟨3, rfl⟩
    · cases hr; exact ⟨4, rfl⟩
  obtain ⟨j, hj⟩ := hj
  obtain ⟨kA, comp, k1, k2, k3, -⟩ := (hKn.2 j _ hj).2
  have hcomp : comp = (g_D γ).1 ci := Option.some.inj (k3.symm.trans hcls.1)
  subst hcomp
  obtain ⟨kC, hkC, -⟩ := hcls.2
  refine W.aast hx hb (hSim.1 a _ (wld_get ha)) (fun q h => by cases h) (fun h => by cases h) k1 k2 rfl hkC ⟨h0, by show _ < (arrV _ _ _).slots.size; rw [arrV_size]; exact hlt⟩ g1 (fun q h => by rw [g3] at h; cases h) (by rw [g2]; exact hkC) (by rw [g2]; exact va_assign hcls) rfl rfl hdg fun H1 e1 z1 o1 => ?_
  have hSim1 := hSim.put (I' := I) (J' := J) ha (fun _ _ => rfl) (fun _ _ => rfl) (sh' := .inl (.object r.1, N, rs.set x.toNatClampNeg (some b))) (by
    show H1[g_ad γ a]? = some (vp_cell _ (_, .inr (.inr (.inr (.inr _)))))
    rw [e1]
    show some ((vp_cell _ (_, .inr (.inr (.inr (.inr _))))).setSlot _ _) = _
    rw [vp_cell_q, vp_cell_q, arrV_store]
    congr 2
    funext q
    show updV _ _ _ q = va_rf (((rs.set x.toNatClampNeg (some b)).getD q none).map (g_ad γ))
    rw [List.getD_eq_getElem?_getD]
    by_cases hq : q = x.toNatClampNeg
    · subst hq
      rw [List.getElem?_set_self (by rw [hrs]; exact hlt)]
      simp [updV]; rfl
    · rw [List.getElem?_set_ne (Ne.symm hq), ← List.getD_eq_getElem?_getD]
      simp [updV, hq]) z1 o1
  exact K p e s mid args below meth c hCx H1 _ ls hL hSim1 (hS.put z1 o1 (hSim.inA ha))
end ALLOC
