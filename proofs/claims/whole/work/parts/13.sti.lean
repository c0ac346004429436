theorem cx_K {γ : GE} {m : MI} {p : Program} {s : State} {mid : MethodId} {args : Array Value} {meth : Method} {c : Code} (h : Cx γ m p s mid args meth c) : Kn γ s := h.2.2.2.2.2.2.2.2.1
theorem cx_E {γ : GE} {m : MI} {p : Program} {s : State} {mid : MethodId} {args : Array Value} {meth : Method} {c : Code} (h : Cx γ m p s mid args meth c) : Ext γ s s.heap := h.2.2.2.2.2.2.2.2.2.1
theorem len_of {ins : Instr} {n k : Nat} {pc : Nat} {v : Int32} {t : Nat} (hn : numOK (pc, ins, n, v, t) = true) (hk : ilen ins = k + 1) : n = k + 1 := by
  unfold numOK at hn
  rw [Bool.and_eq_true] at hn
  have h1 := hn.1
  simp only [hk] at h1
  rw [Bool.or_eq_true] at h1
  rcases h1 with h1 | h1
  · exact (Nat.eq_of_beq_eq_true h1).symm
  · exact absurd (Nat.eq_of_beq_eq_true h1) (by omega)
theorem num_of {ins : Instr} {n : Nat} {pc : Nat} {v : Int32} {t : Nat} (hn : numOK (pc, ins, n, v, t) = true) : (match ins with
  | .iconst z => Int32.ofInt z = v
  | .bipush z => (Int8.ofInt z).toInt32 = v
  | .sipush z => (Int16.ofInt z).toInt32 = v
  | .iinc _ z => Int32.ofInt z = v
  | .goto z => (pc : Int) + z = (t : Int)
  | .if_icmp _ z => (pc : Int) + z = (t : Int)
  | .ifCond _ z => (pc : Int) + z = (t : Int)
  | _ => True) := by
  unfold numOK at hn
  rw [Bool.and_eq_true] at hn
  have h1 := hn.2
  cases ins <;> first | trivial | exact of_decide_eq_true h1
theorem nar_bz {x : Int32} (h : bz x) : vp_nar .boolean x = x := by
  rcases h with rfl | rfl <;> decide +kernel
theorem fld_of {own : String} {z ci f : Nat} {fi : Bool} {ty : Nat} (h : ∃ p, fldOK own (z, ci, f, fi, ty) p = true) : ∃ r : vw_C, vwCl[ci]? = some r ∧ f < r.2.2 ∧ Jvm.Cond.fieldLink own z (r.2.1 f).1 (r.2.1 f).2.1 (r.2.1 f).2.2.1 ∈ gw_tbl ∧ (r.2.1 f).2.2.2 = fi ∧ (fi = true → ty = 9 ∨ (r.2.1 f).1 = own) ∧ (ty = 0 → parseFieldDescriptor (r.2.1 f).2.2.1 = some .int) ∧ (ty = 1 → parseFieldDescriptor (r.2.1 f).2.2.1 = some .boolean) ∧ (ty = 2 → parseFieldDescriptor (r.2.1 f).2.2.1 = some .long) ∧ (ty = 3 → ∃ t, parseFieldDescriptor (r.2.1 f).2.2.1 = some t ∧ ((∃ n, t = .object n) ∨ ∃ u, t = .array u)) := by
  obtain ⟨p, h⟩ := h
  unfold fldOK at h
  simp only at h
  split at h
  · rename_i r hr
    simp only [Bool.and_eq_true, Bool.or_eq_true, decide_eq_true_eq, Bool.not_eq_true'] at h
    obtain ⟨⟨⟨⟨h1, h2⟩, h3⟩, h4⟩, h5⟩ := h
    refine ⟨r, hr, h1, inT_in h2, h3, fun q => ?_, fun q => ?_, fun q => ?_, fun q => ?_, fun q => ?_⟩
    · rcases h4 with (h4 | h4) | h4
      · rw [h4] at q; cases q
      · exact Or.inl (Nat.eq_of_beq_eq_true h4)
      · exact Or.inr h4
    · subst q; exact of_decide_eq_true h5
    · subst q; exact of_decide_eq_true h5
    · subst q; exact of_decide_eq_true h5
    · subst q
      simp only at h5
      split at h5
      · rename_i t ht
        exact ⟨_, ht, Or.inl ⟨_, rfl⟩⟩
      · rename_i t ht
        exact ⟨_, ht, Or.inr ⟨_, rfl⟩⟩
      · cases h5
  · cases h
theorem ref_fit {t : FieldType} (h : (∃ n, t = .object n) ∨ ∃ u, t = .array u) (v : Value) (hv : v = .null ∨ ∃ a, v = .ref a) : narrow t v = v ∧ fits t v = true := by
  rcases h with ⟨n, rfl⟩ | ⟨u, rfl⟩ <;> rcases hv with rfl | ⟨a, rfl⟩ <;> exact ⟨rfl, rfl⟩
theorem iast_cell (cA : ClassId) (n : Nat) (f : Nat → Int32) (k : Nat) (x : Int32) : (vp_cell cA (n, .inl f)).setSlot k (.int x) = vp_cell cA (n, .inl (upd f k x)) := by
  rw [vp_cell_i, vp_cell_i, arrV_store]
  congr 1
  funext q
  by_cases hq : q = k
  · subst hq; simp [updV, upd]
  · simp [updV, upd, hq]
theorem last_cell (cA : ClassId) (n : Nat) (f : Nat → Int64) (k : Nat) (x : Int64) : (vp_cell cA (n, .inr (.inl f))).setSlot k (.long x) = vp_cell cA (n, .inr (.inl (vp_updL f k x))) := by
  rw [vp_cell_l, vp_cell_l, arrV_store]
  congr 1
  funext q
  by_cases hq : q = k
  · subst hq; simp [updV, vp_updL]
  · simp [updV, vp_updL, hq]
theorem zast_cell (cA : ClassId) (n : Nat) (f : Nat → Int32) (k : Nat) (x : Int32) (hz : bz x) : (vp_cell cA (n, .inl f)).setSlot k (narrow .boolean (.int x)) = vp_cell cA (n, .inl (upd f k x)) := by
  rw [show narrow .boolean (.int x) = .int x by rcases hz with rfl | rfl <;> decide +kernel]
  exact iast_cell cA n f k x
theorem rref_rv {γ : GE} {r : Option Nat} : va_rf (r.map (g_ad γ)) = rv γ (rref r) := by cases r <;> rfl

set_option maxHeartbeats 1000000 in
theorem ss_iconst {γ : GE} {m : MI} {d mc ms : Nat} {Post : PT} (hm : OKm m) {pc : Nat} {L : List (Option Value)} {st : List Value} {S : List Sh} {I : AI} {J : AJ} {k u n : Nat} {v : Int32} {t : Nat} {cs : List Prop} {σ' : AS} {z : Int} (hl : lk (mT m) pc = some (.iconst z, n, v, t)) (h : sti γ m mc ms (.iconst z) n v t (pc, L, st, S, I, J, k, u) = some (cs, σ')) (hcs : AllP cs) (K : Rj γ m d mc ms Post σ') : Rj γ m d mc ms Post (pc, L, st, S, I, J, k, u) := by
  obtain ⟨hd, hn⟩ := hm.ins hl
  have hlen := len_of (k := 0) hn rfl
  subst hlen
  simp only [sti] at h
  cases h
  intro p e s mid args below meth c hC H locs ls hL hSim hS
  obtain ⟨hx, hb, hml, hown, hts, hr, hlk, hnm, hKn, hE, hBs⟩ := id hC
  exact lv_iconst hx hb hd (num_of hn) (K p e s mid args below meth c hC H locs ls hL hSim hS)
set_option maxHeartbeats 1000000 in
theorem ss_bipush {γ : GE} {m : MI} {d mc ms : Nat} {Post : PT} (hm : OKm m) {pc : Nat} {L : List (Option Value)} {st : List Value} {S : List Sh} {I : AI} {J : AJ} {k u n : Nat} {v : Int32} {t : Nat} {cs : List Prop} {σ' : AS} {z : Int} (hl : lk (mT m) pc = some (.bipush z, n, v, t)) (h : sti γ m mc ms (.bipush z) n v t (pc, L, st, S, I, J, k, u) = some (cs, σ')) (hcs : AllP cs) (K : Rj γ m d mc ms Post σ') : Rj γ m d mc ms Post (pc, L, st, S, I, J, k, u) := by
  obtain ⟨hd, hn⟩ := hm.ins hl
  have hlen := len_of (k := 1) hn rfl
  subst hlen
  simp only [sti] at h
  cases h
  intro p e s mid args below meth c hC H locs ls hL hSim hS
  obtain ⟨hx, hb, hml, hown, hts, hr, hlk, hnm, hKn, hE, hBs⟩ := id hC
  exact lv_bipush hx hb hd (num_of hn) (K p e s mid args below meth c hC H locs ls hL hSim hS)
set_option maxHeartbeats 1000000 in
theorem ss_sipush {γ : GE} {m : MI} {d mc ms : Nat} {Post : PT} (hm : OKm m) {pc : Nat} {L : List (Option Value)} {st : List Value} {S : List Sh} {I : AI} {J : AJ} {k u n : Nat} {v : Int32} {t : Nat} {cs : List Prop} {σ' : AS} {z : Int} (hl : lk (mT m) pc = some (.sipush z, n, v, t)) (h : sti γ m mc ms (.sipush z) n v t (pc, L, st, S, I, J, k, u) = some (cs, σ')) (hcs : AllP cs) (K : Rj γ m d mc ms Post σ') : Rj γ m d mc ms Post (pc, L, st, S, I, J, k, u) := by
  obtain ⟨hd, hn⟩ := hm.ins hl
  have hlen := len_of (k := 2) hn rfl
  subst hlen
  simp only [sti] at h
  cases h
  intro p e s mid args below meth c hC H locs ls hL hSim hS
  obtain ⟨hx, hb, hml, hown, hts, hr, hlk, hnm, hKn, hE, hBs⟩ := id hC
  exact lv_sipush hx hb hd (num_of hn) (K p e s mid args below meth c hC H locs ls hL hSim hS)
set_option maxHeartbeats 1000000 in
theorem ss_lconst {γ : GE} {m : MI} {d mc ms : Nat} {Post : PT} (hm : OKm m) {pc : Nat} {L : List (Option Value)} {st : List Value} {S : List Sh} {I : AI} {J : AJ} {k u n : Nat} {v : Int32} {t : Nat} {cs : List Prop} {σ' : AS} {z : Fin 2} (hl : lk (mT m) pc = some (.lconst z, n, v, t)) (h : sti γ m mc ms (.lconst z) n v t (pc, L, st, S, I, J, k, u) = some (cs, σ')) (hcs : AllP cs) (K : Rj γ m d mc ms Post σ') : Rj γ m d mc ms Post (pc, L, st, S, I, J, k, u) := by
  obtain ⟨hd, hn⟩ := hm.ins hl
  have hlen := len_of (k := 0) hn rfl
  subst hlen
  simp only [sti] at h
  cases h
  intro p e s mid args below meth c hC H locs ls hL hSim hS
  obtain ⟨hx, hb, hml, hown, hts, hr, hlk, hnm, hKn, hE, hBs⟩ := id hC
  exact lv_lconst hx hb hd (by match z with | 0 => rfl | 1 => rfl) (K p e s mid args below meth c hC H locs ls hL hSim hS)
set_option maxHeartbeats 1000000 in
theorem ss_iload_n {γ : GE} {m : MI} {d mc ms : Nat} {Post : PT} (hm : OKm m) {pc : Nat} {L : List (Option Value)} {st : List Value} {S : List Sh} {I : AI} {J : AJ} {k u n : Nat} {v : Int32} {t : Nat} {cs : List Prop} {σ' : AS} {z : Fin 4} (hl : lk (mT m) pc = some (.iload_n z, n, v, t)) (h : sti γ m mc ms (.iload_n z) n v t (pc, L, st, S, I, J, k, u) = some (cs, σ')) (hcs : AllP cs) (K : Rj γ m d mc ms Post σ') : Rj γ m d mc ms Post (pc, L, st, S, I, J, k, u) := by
  obtain ⟨hd, hn⟩ := hm.ins hl
  have hlen := len_of (k := 0) hn rfl
  subst hlen
  simp only [sti] at h
  split at h
  · cases h
    intro p e s mid args below meth c hC H locs ls hL hSim hS
    obtain ⟨hx, hb, hml, hown, hts, hr, hlk, hnm, hKn, hE, hBs⟩ := id hC
    exact lv_iload_n hx hb hd rfl (hL.at (by assumption)) (K p e s mid args below meth c hC H locs ls hL hSim hS)
  · cases h
set_option maxHeartbeats 1000000 in
theorem ss_iload {γ : GE} {m : MI} {d mc ms : Nat} {Post : PT} (hm : OKm m) {pc : Nat} {L : List (Option Value)} {st : List Value} {S : List Sh} {I : AI} {J : AJ} {k u n : Nat} {v : Int32} {t : Nat} {cs : List Prop} {σ' : AS} {z : Nat} (hl : lk (mT m) pc = some (.iload z, n, v, t)) (h : sti γ m mc ms (.iload z) n v t (pc, L, st, S, I, J, k, u) = some (cs, σ')) (hcs : AllP cs) (K : Rj γ m d mc ms Post σ') : Rj γ m d mc ms Post (pc, L, st, S, I, J, k, u) := by
  obtain ⟨hd, hn⟩ := hm.ins hl
  have hlen := len_of (k := 1) hn rfl
  subst hlen
  simp only [sti] at h
  split at h
  · cases h
    intro p e s mid args below meth c hC H locs ls hL hSim hS
    obtain ⟨hx, hb, hml, hown, hts, hr, hlk, hnm, hKn, hE, hBs⟩ := id hC
    exact lv_iload hx hb hd (hL.at (by assumption)) (K p e s mid args below meth c hC H locs ls hL hSim hS)
  · cases h
set_option maxHeartbeats 1000000 in
theorem ss_lload_n {γ : GE} {m : MI} {d mc ms : Nat} {Post : PT} (hm : OKm m) {pc : Nat} {L : List (Option Value)} {st : List Value} {S : List Sh} {I : AI} {J : AJ} {k u n : Nat} {v : Int32} {t : Nat} {cs : List Prop} {σ' : AS} {z : Fin 4} (hl : lk (mT m) pc = some (.lload_n z, n, v, t)) (h : sti γ m mc ms (.lload_n z) n v t (pc, L, st, S, I, J, k, u) = some (cs, σ')) (hcs : AllP cs) (K : Rj γ m d mc ms Post σ') : Rj γ m d mc ms Post (pc, L, st, S, I, J, k, u) := by
  obtain ⟨hd, hn⟩ := hm.ins hl
  have hlen := len_of (k := 0) hn rfl
  subst hlen
  simp only [sti] at h
  split at h
  · cases h
    intro p e s mid args below meth c hC H locs ls hL hSim hS
    obtain ⟨hx, hb, hml, hown, hts, hr, hlk, hnm, hKn, hE, hBs⟩ := id hC
    exact lv_lload_n hx hb hd rfl (hL.at (by assumption)) (K p e s mid args below meth c hC H locs ls hL hSim hS)
  · cases h
set_option maxHeartbeats 1000000 in
theorem ss_lload {γ : GE} {m : MI} {d mc ms : Nat} {Post : PT} (hm : OKm m) {pc : Nat} {L : List (Option Value)} {st : List Value} {S : List Sh} {I : AI} {J : AJ} {k u n : Nat} {v : Int32} {t : Nat} {cs : List Prop} {σ' : AS} {z : Nat} (hl : lk (mT m) pc = some (.lload z, n, v, t)) (h : sti γ m mc ms (.lload z) n v t (pc, L, st, S, I, J, k, u) = some (cs, σ')) (hcs : AllP cs) (K : Rj γ m d mc ms Post σ') : Rj γ m d mc ms Post (pc, L, st, S, I, J, k, u) := by
  obtain ⟨hd, hn⟩ := hm.ins hl
  have hlen := len_of (k := 1) hn rfl
  subst hlen
  simp only [sti] at h
  split at h
  · cases h
    intro p e s mid args below meth c hC H locs ls hL hSim hS
    obtain ⟨hx, hb, hml, hown, hts, hr, hlk, hnm, hKn, hE, hBs⟩ := id hC
    exact lv_lload hx hb hd (hL.at (by assumption)) (K p e s mid args below meth c hC H locs ls hL hSim hS)
  · cases h
set_option maxHeartbeats 1000000 in
theorem ss_aload_n {γ : GE} {m : MI} {d mc ms : Nat} {Post : PT} (hm : OKm m) {pc : Nat} {L : List (Option Value)} {st : List Value} {S : List Sh} {I : AI} {J : AJ} {k u n : Nat} {v : Int32} {t : Nat} {cs : List Prop} {σ' : AS} {z : Fin 4} (hl : lk (mT m) pc = some (.aload_n z, n, v, t)) (h : sti γ m mc ms (.aload_n z) n v t (pc, L, st, S, I, J, k, u) = some (cs, σ')) (hcs : AllP cs) (K : Rj γ m d mc ms Post σ') : Rj γ m d mc ms Post (pc, L, st, S, I, J, k, u) := by
  obtain ⟨hd, hn⟩ := hm.ins hl
  have hlen := len_of (k := 0) hn rfl
  subst hlen
  simp only [sti] at h
  split at h
  · cases h
    intro p e s mid args below meth c hC H locs ls hL hSim hS
    obtain ⟨hx, hb, hml, hown, hts, hr, hlk, hnm, hKn, hE, hBs⟩ := id hC
    exact lv_aload_n hx hb hd rfl (hL.at (by assumption)) (K p e s mid args below meth c hC H locs ls hL hSim hS)
  · cases h
    intro p e s mid args below meth c hC H locs ls hL hSim hS
    obtain ⟨hx, hb, hml, hown, hts, hr, hlk, hnm, hKn, hE, hBs⟩ := id hC
    exact lv_aload_n hx hb hd rfl (hL.at (by assumption)) (K p e s mid args below meth c hC H locs ls hL hSim hS)
  · cases h
    intro p e s mid args below meth c hC H locs ls hL hSim hS
    obtain ⟨hx, hb, hml, hown, hts, hr, hlk, hnm, hKn, hE, hBs⟩ := id hC
    exact lv_aload_nN hx hb hd rfl (hL.at (by assumption)) (K p e s mid args below meth c hC H locs ls hL hSim hS)
  · cases h
set_option maxHeartbeats 1000000 in
theorem ss_aload {γ : GE} {m : MI} {d mc ms : Nat} {Post : PT} (hm : OKm m) {pc : Nat} {L : List (Option Value)} {st : List Value} {S : List Sh} {I : AI} {J : AJ} {k u n : Nat} {v : Int32} {t : Nat} {cs : List Prop} {σ' : AS} {z : Nat} (hl : lk (mT m) pc = some (.aload z, n, v, t)) (h : sti γ m mc ms (.aload z) n v t (pc, L, st, S, I, J, k, u) = some (cs, σ')) (hcs : AllP cs) (K : Rj γ m d mc ms Post σ') : Rj γ m d mc ms Post (pc, L, st, S, I, J, k, u) := by
  obtain ⟨hd, hn⟩ := hm.ins hl
  have hlen := len_of (k := 1) hn rfl
  subst hlen
  simp only [sti] at h
  split at h
  · cases h
    intro p e s mid args below meth c hC H locs ls hL hSim hS
    obtain ⟨hx, hb, hml, hown, hts, hr, hlk, hnm, hKn, hE, hBs⟩ := id hC
    exact lv_aload hx hb hd (hL.at (by assumption)) (K p e s mid args below meth c hC H locs ls hL hSim hS)
  · cases h
    intro p e s mid args below meth c hC H locs ls hL hSim hS
    obtain ⟨hx, hb, hml, hown, hts, hr, hlk, hnm, hKn, hE, hBs⟩ := id hC
    exact lv_aload hx hb hd (hL.at (by assumption)) (K p e s mid args below meth c hC H locs ls hL hSim hS)
  · cases h
    intro p e s mid args below meth c hC H locs ls hL hSim hS
    obtain ⟨hx, hb, hml, hown, hts, hr, hlk, hnm, hKn, hE, hBs⟩ := id hC
    exact lv_aloadN hx hb hd (hL.at (by assumption)) (K p e s mid args below meth c hC H locs ls hL hSim hS)
  · cases h
set_option maxHeartbeats 1000000 in
theorem ss_istore_n {γ : GE} {m : MI} {d mc ms : Nat} {Post : PT} (hm : OKm m) {pc : Nat} {L : List (Option Value)} {st : List Value} {S : List Sh} {I : AI} {J : AJ} {k u n : Nat} {v : Int32} {t : Nat} {cs : List Prop} {σ' : AS} {z : Fin 4} (hl : lk (mT m) pc = some (.istore_n z, n, v, t)) (h : sti γ m mc ms (.istore_n z) n v t (pc, L, st, S, I, J, k, u) = some (cs, σ')) (hcs : AllP cs) (K : Rj γ m d mc ms Post σ') : Rj γ m d mc ms Post (pc, L, st, S, I, J, k, u) := by
  obtain ⟨hd, hn⟩ := hm.ins hl
  have hlen := len_of (k := 0) hn rfl
  subst hlen
  simp only [sti] at h
  split at h
  · split at h
    · rename_i hi
      cases h
      intro p e s mid args below meth c hC H locs ls hL hSim hS
      obtain ⟨hx, hb, hml, hown, hts, hr, hlk, hnm, hKn, hE, hBs⟩ := id hC
      refine lv_istore_n hx hb hd rfl hL.has hi rfl (fun ls' hL' => K p e s mid args below meth c hC H locs ls' (LH.put1 hL.2.1 hL') hSim hS)
    · cases h
  · cases h
set_option maxHeartbeats 1000000 in
theorem ss_istore {γ : GE} {m : MI} {d mc ms : Nat} {Post : PT} (hm : OKm m) {pc : Nat} {L : List (Option Value)} {st : List Value} {S : List Sh} {I : AI} {J : AJ} {k u n : Nat} {v : Int32} {t : Nat} {cs : List Prop} {σ' : AS} {z : Nat} (hl : lk (mT m) pc = some (.istore z, n, v, t)) (h : sti γ m mc ms (.istore z) n v t (pc, L, st, S, I, J, k, u) = some (cs, σ')) (hcs : AllP cs) (K : Rj γ m d mc ms Post σ') : Rj γ m d mc ms Post (pc, L, st, S, I, J, k, u) := by
  obtain ⟨hd, hn⟩ := hm.ins hl
  have hlen := len_of (k := 1) hn rfl
  subst hlen
  simp only [sti] at h
  split at h
  · split at h
    · rename_i hi
      cases h
      intro p e s mid args below meth c hC H locs ls hL hSim hS
      obtain ⟨hx, hb, hml, hown, hts, hr, hlk, hnm, hKn, hE, hBs⟩ := id hC
      refine lv_istore hx hb hd hL.has hi rfl (fun ls' hL' => K p e s mid args below meth c hC H locs ls' (LH.put1 hL.2.1 hL') hSim hS)
    · cases h
  · cases h
set_option maxHeartbeats 1000000 in
theorem ss_lstore_n {γ : GE} {m : MI} {d mc ms : Nat} {Post : PT} (hm : OKm m) {pc : Nat} {L : List (Option Value)} {st : List Value} {S : List Sh} {I : AI} {J : AJ} {k u n : Nat} {v : Int32} {t : Nat} {cs : List Prop} {σ' : AS} {z : Fin 4} (hl : lk (mT m) pc = some (.lstore_n z, n, v, t)) (h : sti γ m mc ms (.lstore_n z) n v t (pc, L, st, S, I, J, k, u) = some (cs, σ')) (hcs : AllP cs) (K : Rj γ m d mc ms Post σ') : Rj γ m d mc ms Post (pc, L, st, S, I, J, k, u) := by
  obtain ⟨hd, hn⟩ := hm.ins hl
  have hlen := len_of (k := 0) hn rfl
  subst hlen
  simp only [sti] at h
  split at h
  · split at h
    · rename_i hi
      cases h
      intro p e s mid args below meth c hC H locs ls hL hSim hS
      obtain ⟨hx, hb, hml, hown, hts, hr, hlk, hnm, hKn, hE, hBs⟩ := id hC
      refine lv_lstore_n hx hb hd rfl hL.has hi rfl (fun ls' hL' => K p e s mid args below meth c hC H locs ls' (LH.put2 hL.2.1 hL') hSim hS)
    · cases h
  · cases h
set_option maxHeartbeats 1000000 in
theorem ss_lstore {γ : GE} {m : MI} {d mc ms : Nat} {Post : PT} (hm : OKm m) {pc : Nat} {L : List (Option Value)} {st : List Value} {S : List Sh} {I : AI} {J : AJ} {k u n : Nat} {v : Int32} {t : Nat} {cs : List Prop} {σ' : AS} {z : Nat} (hl : lk (mT m) pc = some (.lstore z, n, v, t)) (h : sti γ m mc ms (.lstore z) n v t (pc, L, st, S, I, J, k, u) = some (cs, σ')) (hcs : AllP cs) (K : Rj γ m d mc ms Post σ') : Rj γ m d mc ms Post (pc, L, st, S, I, J, k, u) := by
  obtain ⟨hd, hn⟩ := hm.ins hl
  have hlen := len_of (k := 1) hn rfl
  subst hlen
  simp only [sti] at h
  split at h
  · split at h
    · rename_i hi
      cases h
      intro p e s mid args below meth c hC H locs ls hL hSim hS
      obtain ⟨hx, hb, hml, hown, hts, hr, hlk, hnm, hKn, hE, hBs⟩ := id hC
      refine lv_lstore hx hb hd hL.has hi rfl (fun ls' hL' => K p e s mid args below meth c hC H locs ls' (LH.put2 hL.2.1 hL') hSim hS)
    · cases h
  · cases h
set_option maxHeartbeats 1000000 in
theorem ss_astore_n {γ : GE} {m : MI} {d mc ms : Nat} {Post : PT} (hm : OKm m) {pc : Nat} {L : List (Option Value)} {st : List Value} {S : List Sh} {I : AI} {J : AJ} {k u n : Nat} {v : Int32} {t : Nat} {cs : List Prop} {σ' : AS} {z : Fin 4} (hl : lk (mT m) pc = some (.astore_n z, n, v, t)) (h : sti γ m mc ms (.astore_n z) n v t (pc, L, st, S, I, J, k, u) = some (cs, σ')) (hcs : AllP cs) (K : Rj γ m d mc ms Post σ') : Rj γ m d mc ms Post (pc, L, st, S, I, J, k, u) := by
  obtain ⟨hd, hn⟩ := hm.ins hl
  have hlen := len_of (k := 0) hn rfl
  subst hlen
  simp only [sti] at h
  split at h
  · split at h
    · rename_i hi
      cases h
      intro p e s mid args below meth c hC H locs ls hL hSim hS
      obtain ⟨hx, hb, hml, hown, hts, hr, hlk, hnm, hKn, hE, hBs⟩ := id hC
      refine lv_astore_n hx hb hd rfl hL.has hi rfl (fun ls' hL' => K p e s mid args below meth c hC H locs ls' (LH.put1 (v := .ref _) hL.2.1 hL') hSim hS)
    · cases h
  · split at h
    · rename_i hi
      cases h
      intro p e s mid args below meth c hC H locs ls hL hSim hS
      obtain ⟨hx, hb, hml, hown, hts, hr, hlk, hnm, hKn, hE, hBs⟩ := id hC
      refine lv_astore_n hx hb hd rfl hL.has hi rfl (fun ls' hL' => K p e s mid args below meth c hC H locs ls' (LH.put1 (v := .retAddr _) hL.2.1 hL') hSim hS)
    · cases h
  · split at h
    · rename_i hi
      cases h
      intro p e s mid args below meth c hC H locs ls hL hSim hS
      obtain ⟨hx, hb, hml, hown, hts, hr, hlk, hnm, hKn, hE, hBs⟩ := id hC
      refine lv_astore_nN hx hb hd rfl hL.has hi rfl (fun ls' hL' => K p e s mid args below meth c hC H locs ls' (LH.put1 (v := .null) hL.2.1 hL') hSim hS)
    · cases h
  · cases h
set_option maxHeartbeats 1000000 in
theorem ss_astore {γ : GE} {m : MI} {d mc ms : Nat} {Post : PT} (hm : OKm m) {pc : Nat} {L : List (Option Value)} {st : List Value} {S : List Sh} {I : AI} {J : AJ} {k u n : Nat} {v : Int32} {t : Nat} {cs : List Prop} {σ' : AS} {z : Nat} (hl : lk (mT m) pc = some (.astore z, n, v, t)) (h : sti γ m mc ms (.astore z) n v t (pc, L, st, S, I, J, k, u) = some (cs, σ')) (hcs : AllP cs) (K : Rj γ m d mc ms Post σ') : Rj γ m d mc ms Post (pc, L, st, S, I, J, k, u) := by
  obtain ⟨hd, hn⟩ := hm.ins hl
  have hlen := len_of (k := 1) hn rfl
  subst hlen
  simp only [sti] at h
  split at h
  · split at h
    · rename_i hi
      cases h
      intro p e s mid args below meth c hC H locs ls hL hSim hS
      obtain ⟨hx, hb, hml, hown, hts, hr, hlk, hnm, hKn, hE, hBs⟩ := id hC
      refine lv_astore hx hb hd hL.has hi rfl (fun ls' hL' => K p e s mid args below meth c hC H locs ls' (LH.put1 (v := .ref _) hL.2.1 hL') hSim hS)
    · cases h
  · split at h
    · rename_i hi
      cases h
      intro p e s mid args below meth c hC H locs ls hL hSim hS
      obtain ⟨hx, hb, hml, hown, hts, hr, hlk, hnm, hKn, hE, hBs⟩ := id hC
      refine lv_astore hx hb hd hL.has hi rfl (fun ls' hL' => K p e s mid args below meth c hC H locs ls' (LH.put1 (v := .retAddr _) hL.2.1 hL') hSim hS)
    · cases h
  · split at h
    · rename_i hi
      cases h
      intro p e s mid args below meth c hC H locs ls hL hSim hS
      obtain ⟨hx, hb, hml, hown, hts, hr, hlk, hnm, hKn, hE, hBs⟩ := id hC
      refine lv_astoreN hx hb hd hL.has hi rfl (fun ls' hL' => K p e s mid args below meth c hC H locs ls' (LH.put1 (v := .null) hL.2.1 hL') hSim hS)
    · cases h
  · cases h
set_option maxHeartbeats 1000000 in
theorem ss_iinc {γ : GE} {m : MI} {d mc ms : Nat} {Post : PT} (hm : OKm m) {pc : Nat} {L : List (Option Value)} {st : List Value} {S : List Sh} {I : AI} {J : AJ} {k u n : Nat} {v : Int32} {t : Nat} {cs : List Prop} {σ' : AS} {z : Nat} {w : Int} (hl : lk (mT m) pc = some (.iinc z w, n, v, t)) (h : sti γ m mc ms (.iinc z w) n v t (pc, L, st, S, I, J, k, u) = some (cs, σ')) (hcs : AllP cs) (K : Rj γ m d mc ms Post σ') : Rj γ m d mc ms Post (pc, L, st, S, I, J, k, u) := by
  obtain ⟨hd, hn⟩ := hm.ins hl
  have hlen := len_of (k := 2) hn rfl
  subst hlen
  simp only [sti] at h
  split at h
  · rename_i x hx0
    split at h
    · rename_i hi
      cases h
      intro p e s mid args below meth c hC H locs ls hL hSim hS
      obtain ⟨hx, hb, hml, hown, hts, hr, hlk, hnm, hKn, hE, hBs⟩ := id hC
      obtain ⟨q, hq⟩ := List.getElem?_of_mem (mem_aL (γ := γ) (q := (z, .int x)) |>.mpr ⟨_, hx0, rfl⟩)
      exact lv_iinc (k := q) hx hb hd hL.has hq (by rw [num_of hn]) hi rfl (fun ls' hL' => K p e s mid args below meth c hC H locs ls' (LH.put1 hL.2.1 hL') hSim hS)
    · cases h
  · cases h
set_option maxHeartbeats 1000000 in
theorem ss_iadd {γ : GE} {m : MI} {d mc ms : Nat} {Post : PT} (hm : OKm m) {pc : Nat} {L : List (Option Value)} {st : List Value} {S : List Sh} {I : AI} {J : AJ} {k u n : Nat} {v : Int32} {t : Nat} {cs : List Prop} {σ' : AS}  (hl : lk (mT m) pc = some (.iadd, n, v, t)) (h : sti γ m mc ms (.iadd) n v t (pc, L, st, S, I, J, k, u) = some (cs, σ')) (hcs : AllP cs) (K : Rj γ m d mc ms Post σ') : Rj γ m d mc ms Post (pc, L, st, S, I, J, k, u) := by
  obtain ⟨hd, hn⟩ := hm.ins hl
  have hlen := len_of (k := 0) hn rfl
  subst hlen
  simp only [sti] at h
  split at h
  · cases h
    intro p e s mid args below meth c hC H locs ls hL hSim hS
    obtain ⟨hx, hb, hml, hown, hts, hr, hlk, hnm, hKn, hE, hBs⟩ := id hC
    exact lv_iadd hx hb hd (K p e s mid args below meth c hC H locs ls hL hSim hS)
  · cases h
set_option maxHeartbeats 1000000 in
theorem ss_isub {γ : GE} {m : MI} {d mc ms : Nat} {Post : PT} (hm : OKm m) {pc : Nat} {L : List (Option Value)} {st : List Value} {S : List Sh} {I : AI} {J : AJ} {k u n : Nat} {v : Int32} {t : Nat} {cs : List Prop} {σ' : AS}  (hl : lk (mT m) pc = some (.isub, n, v, t)) (h : sti γ m mc ms (.isub) n v t (pc, L, st, S, I, J, k, u) = some (cs, σ')) (hcs : AllP cs) (K : Rj γ m d mc ms Post σ') : Rj γ m d mc ms Post (pc, L, st, S, I, J, k, u) := by
  obtain ⟨hd, hn⟩ := hm.ins hl
  have hlen := len_of (k := 0) hn rfl
  subst hlen
  simp only [sti] at h
  split at h
  · cases h
    intro p e s mid args below meth c hC H locs ls hL hSim hS
    obtain ⟨hx, hb, hml, hown, hts, hr, hlk, hnm, hKn, hE, hBs⟩ := id hC
    exact lv_isub hx hb hd (K p e s mid args below meth c hC H locs ls hL hSim hS)
  · cases h
set_option maxHeartbeats 1000000 in
theorem ss_imul {γ : GE} {m : MI} {d mc ms : Nat} {Post : PT} (hm : OKm m) {pc : Nat} {L : List (Option Value)} {st : List Value} {S : List Sh} {I : AI} {J : AJ} {k u n : Nat} {v : Int32} {t : Nat} {cs : List Prop} {σ' : AS}  (hl : lk (mT m) pc = some (.imul, n, v, t)) (h : sti γ m mc ms (.imul) n v t (pc, L, st, S, I, J, k, u) = some (cs, σ')) (hcs : AllP cs) (K : Rj γ m d mc ms Post σ') : Rj γ m d mc ms Post (pc, L, st, S, I, J, k, u) := by
  obtain ⟨hd, hn⟩ := hm.ins hl
  have hlen := len_of (k := 0) hn rfl
  subst hlen
  simp only [sti] at h
  split at h
  · cases h
    intro p e s mid args below meth c hC H locs ls hL hSim hS
    obtain ⟨hx, hb, hml, hown, hts, hr, hlk, hnm, hKn, hE, hBs⟩ := id hC
    exact lv_imul hx hb hd (K p e s mid args below meth c hC H locs ls hL hSim hS)
  · cases h
set_option maxHeartbeats 1000000 in
theorem ss_iand {γ : GE} {m : MI} {d mc ms : Nat} {Post : PT} (hm : OKm m) {pc : Nat} {L : List (Option Value)} {st : List Value} {S : List Sh} {I : AI} {J : AJ} {k u n : Nat} {v : Int32} {t : Nat} {cs : List Prop} {σ' : AS}  (hl : lk (mT m) pc = some (.iand, n, v, t)) (h : sti γ m mc ms (.iand) n v t (pc, L, st, S, I, J, k, u) = some (cs, σ')) (hcs : AllP cs) (K : Rj γ m d mc ms Post σ') : Rj γ m d mc ms Post (pc, L, st, S, I, J, k, u) := by
  obtain ⟨hd, hn⟩ := hm.ins hl
  have hlen := len_of (k := 0) hn rfl
  subst hlen
  simp only [sti] at h
  split at h
  · cases h
    intro p e s mid args below meth c hC H locs ls hL hSim hS
    obtain ⟨hx, hb, hml, hown, hts, hr, hlk, hnm, hKn, hE, hBs⟩ := id hC
    exact lv_iand hx hb hd (K p e s mid args below meth c hC H locs ls hL hSim hS)
  · cases h
set_option maxHeartbeats 1000000 in
theorem ss_ior {γ : GE} {m : MI} {d mc ms : Nat} {Post : PT} (hm : OKm m) {pc : Nat} {L : List (Option Value)} {st : List Value} {S : List Sh} {I : AI} {J : AJ} {k u n : Nat} {v : Int32} {t : Nat} {cs : List Prop} {σ' : AS}  (hl : lk (mT m) pc = some (.ior, n, v, t)) (h : sti γ m mc ms (.ior) n v t (pc, L, st, S, I, J, k, u) = some (cs, σ')) (hcs : AllP cs) (K : Rj γ m d mc ms Post σ') : Rj γ m d mc ms Post (pc, L, st, S, I, J, k, u) := by
  obtain ⟨hd, hn⟩ := hm.ins hl
  have hlen := len_of (k := 0) hn rfl
  subst hlen
  simp only [sti] at h
  split at h
  · cases h
    intro p e s mid args below meth c hC H locs ls hL hSim hS
    obtain ⟨hx, hb, hml, hown, hts, hr, hlk, hnm, hKn, hE, hBs⟩ := id hC
    exact lv_ior hx hb hd (K p e s mid args below meth c hC H locs ls hL hSim hS)
  · cases h
set_option maxHeartbeats 1000000 in
theorem ss_ixor {γ : GE} {m : MI} {d mc ms : Nat} {Post : PT} (hm : OKm m) {pc : Nat} {L : List (Option Value)} {st : List Value} {S : List Sh} {I : AI} {J : AJ} {k u n : Nat} {v : Int32} {t : Nat} {cs : List Prop} {σ' : AS}  (hl : lk (mT m) pc = some (.ixor, n, v, t)) (h : sti γ m mc ms (.ixor) n v t (pc, L, st, S, I, J, k, u) = some (cs, σ')) (hcs : AllP cs) (K : Rj γ m d mc ms Post σ') : Rj γ m d mc ms Post (pc, L, st, S, I, J, k, u) := by
  obtain ⟨hd, hn⟩ := hm.ins hl
  have hlen := len_of (k := 0) hn rfl
  subst hlen
  simp only [sti] at h
  split at h
  · cases h
    intro p e s mid args below meth c hC H locs ls hL hSim hS
    obtain ⟨hx, hb, hml, hown, hts, hr, hlk, hnm, hKn, hE, hBs⟩ := id hC
    exact lv_ixor hx hb hd (K p e s mid args below meth c hC H locs ls hL hSim hS)
  · cases h
set_option maxHeartbeats 1000000 in
theorem ss_ishl {γ : GE} {m : MI} {d mc ms : Nat} {Post : PT} (hm : OKm m) {pc : Nat} {L : List (Option Value)} {st : List Value} {S : List Sh} {I : AI} {J : AJ} {k u n : Nat} {v : Int32} {t : Nat} {cs : List Prop} {σ' : AS}  (hl : lk (mT m) pc = some (.ishl, n, v, t)) (h : sti γ m mc ms (.ishl) n v t (pc, L, st, S, I, J, k, u) = some (cs, σ')) (hcs : AllP cs) (K : Rj γ m d mc ms Post σ') : Rj γ m d mc ms Post (pc, L, st, S, I, J, k, u) := by
  obtain ⟨hd, hn⟩ := hm.ins hl
  have hlen := len_of (k := 0) hn rfl
  subst hlen
  simp only [sti] at h
  split at h
  · cases h
    intro p e s mid args below meth c hC H locs ls hL hSim hS
    obtain ⟨hx, hb, hml, hown, hts, hr, hlk, hnm, hKn, hE, hBs⟩ := id hC
    exact lv_ishl hx hb hd (K p e s mid args below meth c hC H locs ls hL hSim hS)
  · cases h
set_option maxHeartbeats 1000000 in
theorem ss_ishr {γ : GE} {m : MI} {d mc ms : Nat} {Post : PT} (hm : OKm m) {pc : Nat} {L : List (Option Value)} {st : List Value} {S : List Sh} {I : AI} {J : AJ} {k u n : Nat} {v : Int32} {t : Nat} {cs : List Prop} {σ' : AS}  (hl : lk (mT m) pc = some (.ishr, n, v, t)) (h : sti γ m mc ms (.ishr) n v t (pc, L, st, S, I, J, k, u) = some (cs, σ')) (hcs : AllP cs) (K : Rj γ m d mc ms Post σ') : Rj γ m d mc ms Post (pc, L, st, S, I, J, k, u) := by
  obtain ⟨hd, hn⟩ := hm.ins hl
  have hlen := len_of (k := 0) hn rfl
  subst hlen
  simp only [sti] at h
  split at h
  · cases h
    intro p e s mid args below meth c hC H locs ls hL hSim hS
    obtain ⟨hx, hb, hml, hown, hts, hr, hlk, hnm, hKn, hE, hBs⟩ := id hC
    exact lv_ishr hx hb hd (K p e s mid args below meth c hC H locs ls hL hSim hS)
  · cases h
set_option maxHeartbeats 1000000 in
theorem ss_ineg {γ : GE} {m : MI} {d mc ms : Nat} {Post : PT} (hm : OKm m) {pc : Nat} {L : List (Option Value)} {st : List Value} {S : List Sh} {I : AI} {J : AJ} {k u n : Nat} {v : Int32} {t : Nat} {cs : List Prop} {σ' : AS}  (hl : lk (mT m) pc = some (.ineg, n, v, t)) (h : sti γ m mc ms (.ineg) n v t (pc, L, st, S, I, J, k, u) = some (cs, σ')) (hcs : AllP cs) (K : Rj γ m d mc ms Post σ') : Rj γ m d mc ms Post (pc, L, st, S, I, J, k, u) := by
  obtain ⟨hd, hn⟩ := hm.ins hl
  have hlen := len_of (k := 0) hn rfl
  subst hlen
  simp only [sti] at h
  split at h
  · cases h
    intro p e s mid args below meth c hC H locs ls hL hSim hS
    obtain ⟨hx, hb, hml, hown, hts, hr, hlk, hnm, hKn, hE, hBs⟩ := id hC
    exact lv_ineg hx hb hd (K p e s mid args below meth c hC H locs ls hL hSim hS)
  · cases h
set_option maxHeartbeats 1000000 in
theorem ss_ladd {γ : GE} {m : MI} {d mc ms : Nat} {Post : PT} (hm : OKm m) {pc : Nat} {L : List (Option Value)} {st : List Value} {S : List Sh} {I : AI} {J : AJ} {k u n : Nat} {v : Int32} {t : Nat} {cs : List Prop} {σ' : AS}  (hl : lk (mT m) pc = some (.ladd, n, v, t)) (h : sti γ m mc ms (.ladd) n v t (pc, L, st, S, I, J, k, u) = some (cs, σ')) (hcs : AllP cs) (K : Rj γ m d mc ms Post σ') : Rj γ m d mc ms Post (pc, L, st, S, I, J, k, u) := by
  obtain ⟨hd, hn⟩ := hm.ins hl
  have hlen := len_of (k := 0) hn rfl
  subst hlen
  simp only [sti] at h
  split at h
  · cases h
    intro p e s mid args below meth c hC H locs ls hL hSim hS
    obtain ⟨hx, hb, hml, hown, hts, hr, hlk, hnm, hKn, hE, hBs⟩ := id hC
    exact lv_ladd hx hb hd (K p e s mid args below meth c hC H locs ls hL hSim hS)
  · cases h
set_option maxHeartbeats 1000000 in
theorem ss_lsub {γ : GE} {m : MI} {d mc ms : Nat} {Post : PT} (hm : OKm m) {pc : Nat} {L : List (Option Value)} {st : List Value} {S : List Sh} {I : AI} {J : AJ} {k u n : Nat} {v : Int32} {t : Nat} {cs : List Prop} {σ' : AS}  (hl : lk (mT m) pc = some (.lsub, n, v, t)) (h : sti γ m mc ms (.lsub) n v t (pc, L, st, S, I, J, k, u) = some (cs, σ')) (hcs : AllP cs) (K : Rj γ m d mc ms Post σ') : Rj γ m d mc ms Post (pc, L, st, S, I, J, k, u) := by
  obtain ⟨hd, hn⟩ := hm.ins hl
  have hlen := len_of (k := 0) hn rfl
  subst hlen
  simp only [sti] at h
  split at h
  · cases h
    intro p e s mid args below meth c hC H locs ls hL hSim hS
    obtain ⟨hx, hb, hml, hown, hts, hr, hlk, hnm, hKn, hE, hBs⟩ := id hC
    exact lv_lsub hx hb hd (K p e s mid args below meth c hC H locs ls hL hSim hS)
  · cases h
set_option maxHeartbeats 1000000 in
theorem ss_lmul {γ : GE} {m : MI} {d mc ms : Nat} {Post : PT} (hm : OKm m) {pc : Nat} {L : List (Option Value)} {st : List Value} {S : List Sh} {I : AI} {J : AJ} {k u n : Nat} {v : Int32} {t : Nat} {cs : List Prop} {σ' : AS}  (hl : lk (mT m) pc = some (.lmul, n, v, t)) (h : sti γ m mc ms (.lmul) n v t (pc, L, st, S, I, J, k, u) = some (cs, σ')) (hcs : AllP cs) (K : Rj γ m d mc ms Post σ') : Rj γ m d mc ms Post (pc, L, st, S, I, J, k, u) := by
  obtain ⟨hd, hn⟩ := hm.ins hl
  have hlen := len_of (k := 0) hn rfl
  subst hlen
  simp only [sti] at h
  split at h
  · cases h
    intro p e s mid args below meth c hC H locs ls hL hSim hS
    obtain ⟨hx, hb, hml, hown, hts, hr, hlk, hnm, hKn, hE, hBs⟩ := id hC
    exact lv_lmul hx hb hd (K p e s mid args below meth c hC H locs ls hL hSim hS)
  · cases h
set_option maxHeartbeats 1000000 in
theorem ss_land {γ : GE} {m : MI} {d mc ms : Nat} {Post : PT} (hm : OKm m) {pc : Nat} {L : List (Option Value)} {st : List Value} {S : List Sh} {I : AI} {J : AJ} {k u n : Nat} {v : Int32} {t : Nat} {cs : List Prop} {σ' : AS}  (hl : lk (mT m) pc = some (.land, n, v, t)) (h : sti γ m mc ms (.land) n v t (pc, L, st, S, I, J, k, u) = some (cs, σ')) (hcs : AllP cs) (K : Rj γ m d mc ms Post σ') : Rj γ m d mc ms Post (pc, L, st, S, I, J, k, u) := by
  obtain ⟨hd, hn⟩ := hm.ins hl
  have hlen := len_of (k := 0) hn rfl
  subst hlen
  simp only [sti] at h
  split at h
  · cases h
    intro p e s mid args below meth c hC H locs ls hL hSim hS
    obtain ⟨hx, hb, hml, hown, hts, hr, hlk, hnm, hKn, hE, hBs⟩ := id hC
    exact lv_land hx hb hd (K p e s mid args below meth c hC H locs ls hL hSim hS)
  · cases h
set_option maxHeartbeats 1000000 in
theorem ss_lor {γ : GE} {m : MI} {d mc ms : Nat} {Post : PT} (hm : OKm m) {pc : Nat} {L : List (Option Value)} {st : List Value} {S : List Sh} {I : AI} {J : AJ} {k u n : Nat} {v : Int32} {t : Nat} {cs : List Prop} {σ' : AS}  (hl : lk (mT m) pc = some (.lor, n, v, t)) (h : sti γ m mc ms (.lor) n v t (pc, L, st, S, I, J, k, u) = some (cs, σ')) (hcs : AllP cs) (K : Rj γ m d mc ms Post σ') : Rj γ m d mc ms Post (pc, L, st, S, I, J, k, u) := by
  obtain ⟨hd, hn⟩ := hm.ins hl
  have hlen := len_of (k := 0) hn rfl
  subst hlen
  simp only [sti] at h
  split at h
  · cases h
    intro p e s mid args below meth c hC H locs ls hL hSim hS
    obtain ⟨hx, hb, hml, hown, hts, hr, hlk, hnm, hKn, hE, hBs⟩ := id hC
    exact lv_lor hx hb hd (K p e s mid args below meth c hC H locs ls hL hSim hS)
  · cases h
set_option maxHeartbeats 1000000 in
theorem ss_lxor {γ : GE} {m : MI} {d mc ms : Nat} {Post : PT} (hm : OKm m) {pc : Nat} {L : List (Option Value)} {st : List Value} {S : List Sh} {I : AI} {J : AJ} {k u n : Nat} {v : Int32} {t : Nat} {cs : List Prop} {σ' : AS}  (hl : lk (mT m) pc = some (.lxor, n, v, t)) (h : sti γ m mc ms (.lxor) n v t (pc, L, st, S, I, J, k, u) = some (cs, σ')) (hcs : AllP cs) (K : Rj γ m d mc ms Post σ') : Rj γ m d mc ms Post (pc, L, st, S, I, J, k, u) := by
  obtain ⟨hd, hn⟩ := hm.ins hl
  have hlen := len_of (k := 0) hn rfl
  subst hlen
  simp only [sti] at h
  split at h
  · cases h
    intro p e s mid args below meth c hC H locs ls hL hSim hS
    obtain ⟨hx, hb, hml, hown, hts, hr, hlk, hnm, hKn, hE, hBs⟩ := id hC
    exact lv_lxor hx hb hd (K p e s mid args below meth c hC H locs ls hL hSim hS)
  · cases h
set_option maxHeartbeats 1000000 in
theorem ss_iushr {γ : GE} {m : MI} {d mc ms : Nat} {Post : PT} (hm : OKm m) {pc : Nat} {L : List (Option Value)} {st : List Value} {S : List Sh} {I : AI} {J : AJ} {k u n : Nat} {v : Int32} {t : Nat} {cs : List Prop} {σ' : AS}  (hl : lk (mT m) pc = some (.iushr, n, v, t)) (h : sti γ m mc ms (.iushr) n v t (pc, L, st, S, I, J, k, u) = some (cs, σ')) (hcs : AllP cs) (K : Rj γ m d mc ms Post σ') : Rj γ m d mc ms Post (pc, L, st, S, I, J, k, u) := by
  obtain ⟨hd, hn⟩ := hm.ins hl
  have hlen := len_of (k := 0) hn rfl
  subst hlen
  simp only [sti] at h
  split at h
  · cases h
    intro p e s mid args below meth c hC H locs ls hL hSim hS
    obtain ⟨hx, hb, hml, hown, hts, hr, hlk, hnm, hKn, hE, hBs⟩ := id hC
    exact lv_iushr hx hb hd rfl (K p e s mid args below meth c hC H locs ls hL hSim hS)
  · cases h
set_option maxHeartbeats 1000000 in
theorem ss_lshl {γ : GE} {m : MI} {d mc ms : Nat} {Post : PT} (hm : OKm m) {pc : Nat} {L : List (Option Value)} {st : List Value} {S : List Sh} {I : AI} {J : AJ} {k u n : Nat} {v : Int32} {t : Nat} {cs : List Prop} {σ' : AS}  (hl : lk (mT m) pc = some (.lshl, n, v, t)) (h : sti γ m mc ms (.lshl) n v t (pc, L, st, S, I, J, k, u) = some (cs, σ')) (hcs : AllP cs) (K : Rj γ m d mc ms Post σ') : Rj γ m d mc ms Post (pc, L, st, S, I, J, k, u) := by
  obtain ⟨hd, hn⟩ := hm.ins hl
  have hlen := len_of (k := 0) hn rfl
  subst hlen
  simp only [sti] at h
  split at h
  · cases h
    intro p e s mid args below meth c hC H locs ls hL hSim hS
    obtain ⟨hx, hb, hml, hown, hts, hr, hlk, hnm, hKn, hE, hBs⟩ := id hC
    exact lv_lshl hx hb hd rfl (K p e s mid args below meth c hC H locs ls hL hSim hS)
  · cases h
set_option maxHeartbeats 1000000 in
theorem ss_lshr {γ : GE} {m : MI} {d mc ms : Nat} {Post : PT} (hm : OKm m) {pc : Nat} {L : List (Option Value)} {st : List Value} {S : List Sh} {I : AI} {J : AJ} {k u n : Nat} {v : Int32} {t : Nat} {cs : List Prop} {σ' : AS}  (hl : lk (mT m) pc = some (.lshr, n, v, t)) (h : sti γ m mc ms (.lshr) n v t (pc, L, st, S, I, J, k, u) = some (cs, σ')) (hcs : AllP cs) (K : Rj γ m d mc ms Post σ') : Rj γ m d mc ms Post (pc, L, st, S, I, J, k, u) := by
  obtain ⟨hd, hn⟩ := hm.ins hl
  have hlen := len_of (k := 0) hn rfl
  subst hlen
  simp only [sti] at h
  split at h
  · cases h
    intro p e s mid args below meth c hC H locs ls hL hSim hS
    obtain ⟨hx, hb, hml, hown, hts, hr, hlk, hnm, hKn, hE, hBs⟩ := id hC
    exact lv_lshr hx hb hd rfl (K p e s mid args below meth c hC H locs ls hL hSim hS)
  · cases h
set_option maxHeartbeats 1000000 in
theorem ss_lushr {γ : GE} {m : MI} {d mc ms : Nat} {Post : PT} (hm : OKm m) {pc : Nat} {L : List (Option Value)} {st : List Value} {S : List Sh} {I : AI} {J : AJ} {k u n : Nat} {v : Int32} {t : Nat} {cs : List Prop} {σ' : AS}  (hl : lk (mT m) pc = some (.lushr, n, v, t)) (h : sti γ m mc ms (.lushr) n v t (pc, L, st, S, I, J, k, u) = some (cs, σ')) (hcs : AllP cs) (K : Rj γ m d mc ms Post σ') : Rj γ m d mc ms Post (pc, L, st, S, I, J, k, u) := by
  obtain ⟨hd, hn⟩ := hm.ins hl
  have hlen := len_of (k := 0) hn rfl
  subst hlen
  simp only [sti] at h
  split at h
  · cases h
    intro p e s mid args below meth c hC H locs ls hL hSim hS
    obtain ⟨hx, hb, hml, hown, hts, hr, hlk, hnm, hKn, hE, hBs⟩ := id hC
    exact lv_lushr hx hb hd rfl (K p e s mid args below meth c hC H locs ls hL hSim hS)
  · cases h
set_option maxHeartbeats 1000000 in
theorem ss_i2l {γ : GE} {m : MI} {d mc ms : Nat} {Post : PT} (hm : OKm m) {pc : Nat} {L : List (Option Value)} {st : List Value} {S : List Sh} {I : AI} {J : AJ} {k u n : Nat} {v : Int32} {t : Nat} {cs : List Prop} {σ' : AS}  (hl : lk (mT m) pc = some (.i2l, n, v, t)) (h : sti γ m mc ms (.i2l) n v t (pc, L, st, S, I, J, k, u) = some (cs, σ')) (hcs : AllP cs) (K : Rj γ m d mc ms Post σ') : Rj γ m d mc ms Post (pc, L, st, S, I, J, k, u) := by
  obtain ⟨hd, hn⟩ := hm.ins hl
  have hlen := len_of (k := 0) hn rfl
  subst hlen
  simp only [sti] at h
  split at h
  · cases h
    intro p e s mid args below meth c hC H locs ls hL hSim hS
    obtain ⟨hx, hb, hml, hown, hts, hr, hlk, hnm, hKn, hE, hBs⟩ := id hC
    exact lv_i2l hx hb hd rfl (K p e s mid args below meth c hC H locs ls hL hSim hS)
  · cases h
set_option maxHeartbeats 1000000 in
theorem ss_l2i {γ : GE} {m : MI} {d mc ms : Nat} {Post : PT} (hm : OKm m) {pc : Nat} {L : List (Option Value)} {st : List Value} {S : List Sh} {I : AI} {J : AJ} {k u n : Nat} {v : Int32} {t : Nat} {cs : List Prop} {σ' : AS}  (hl : lk (mT m) pc = some (.l2i, n, v, t)) (h : sti γ m mc ms (.l2i) n v t (pc, L, st, S, I, J, k, u) = some (cs, σ')) (hcs : AllP cs) (K : Rj γ m d mc ms Post σ') : Rj γ m d mc ms Post (pc, L, st, S, I, J, k, u) := by
  obtain ⟨hd, hn⟩ := hm.ins hl
  have hlen := len_of (k := 0) hn rfl
  subst hlen
  simp only [sti] at h
  split at h
  · cases h
    intro p e s mid args below meth c hC H locs ls hL hSim hS
    obtain ⟨hx, hb, hml, hown, hts, hr, hlk, hnm, hKn, hE, hBs⟩ := id hC
    exact lv_l2i hx hb hd rfl (K p e s mid args below meth c hC H locs ls hL hSim hS)
  · cases h
set_option maxHeartbeats 1000000 in
theorem ss_i2b {γ : GE} {m : MI} {d mc ms : Nat} {Post : PT} (hm : OKm m) {pc : Nat} {L : List (Option Value)} {st : List Value} {S : List Sh} {I : AI} {J : AJ} {k u n : Nat} {v : Int32} {t : Nat} {cs : List Prop} {σ' : AS}  (hl : lk (mT m) pc = some (.i2b, n, v, t)) (h : sti γ m mc ms (.i2b) n v t (pc, L, st, S, I, J, k, u) = some (cs, σ')) (hcs : AllP cs) (K : Rj γ m d mc ms Post σ') : Rj γ m d mc ms Post (pc, L, st, S, I, J, k, u) := by
  obtain ⟨hd, hn⟩ := hm.ins hl
  have hlen := len_of (k := 0) hn rfl
  subst hlen
  simp only [sti] at h
  split at h
  · cases h
    intro p e s mid args below meth c hC H locs ls hL hSim hS
    obtain ⟨hx, hb, hml, hown, hts, hr, hlk, hnm, hKn, hE, hBs⟩ := id hC
    exact lv_i2b hx hb hd rfl (K p e s mid args below meth c hC H locs ls hL hSim hS)
  · cases h
set_option maxHeartbeats 1000000 in
theorem ss_i2c {γ : GE} {m : MI} {d mc ms : Nat} {Post : PT} (hm : OKm m) {pc : Nat} {L : List (Option Value)} {st : List Value} {S : List Sh} {I : AI} {J : AJ} {k u n : Nat} {v : Int32} {t : Nat} {cs : List Prop} {σ' : AS}  (hl : lk (mT m) pc = some (.i2c, n, v, t)) (h : sti γ m mc ms (.i2c) n v t (pc, L, st, S, I, J, k, u) = some (cs, σ')) (hcs : AllP cs) (K : Rj γ m d mc ms Post σ') : Rj γ m d mc ms Post (pc, L, st, S, I, J, k, u) := by
  obtain ⟨hd, hn⟩ := hm.ins hl
  have hlen := len_of (k := 0) hn rfl
  subst hlen
  simp only [sti] at h
  split at h
  · cases h
    intro p e s mid args below meth c hC H locs ls hL hSim hS
    obtain ⟨hx, hb, hml, hown, hts, hr, hlk, hnm, hKn, hE, hBs⟩ := id hC
    exact lv_i2c hx hb hd rfl (K p e s mid args below meth c hC H locs ls hL hSim hS)
  · cases h
set_option maxHeartbeats 1000000 in
theorem ss_lcmp {γ : GE} {m : MI} {d mc ms : Nat} {Post : PT} (hm : OKm m) {pc : Nat} {L : List (Option Value)} {st : List Value} {S : List Sh} {I : AI} {J : AJ} {k u n : Nat} {v : Int32} {t : Nat} {cs : List Prop} {σ' : AS}  (hl : lk (mT m) pc = some (.lcmp, n, v, t)) (h : sti γ m mc ms (.lcmp) n v t (pc, L, st, S, I, J, k, u) = some (cs, σ')) (hcs : AllP cs) (K : Rj γ m d mc ms Post σ') : Rj γ m d mc ms Post (pc, L, st, S, I, J, k, u) := by
  obtain ⟨hd, hn⟩ := hm.ins hl
  have hlen := len_of (k := 0) hn rfl
  subst hlen
  simp only [sti] at h
  split at h
  · cases h
    intro p e s mid args below meth c hC H locs ls hL hSim hS
    obtain ⟨hx, hb, hml, hown, hts, hr, hlk, hnm, hKn, hE, hBs⟩ := id hC
    exact W.lcmp hx hb hd (K p e s mid args below meth c hC H locs ls hL hSim hS)
  · cases h
set_option maxHeartbeats 1000000 in
theorem ss_idiv {γ : GE} {m : MI} {d mc ms : Nat} {Post : PT} (hm : OKm m) {pc : Nat} {L : List (Option Value)} {st : List Value} {S : List Sh} {I : AI} {J : AJ} {k u n : Nat} {v : Int32} {t : Nat} {cs : List Prop} {σ' : AS}  (hl : lk (mT m) pc = some (.idiv, n, v, t)) (h : sti γ m mc ms (.idiv) n v t (pc, L, st, S, I, J, k, u) = some (cs, σ')) (hcs : AllP cs) (K : Rj γ m d mc ms Post σ') : Rj γ m d mc ms Post (pc, L, st, S, I, J, k, u) := by
  obtain ⟨hd, hn⟩ := hm.ins hl
  have hlen := len_of (k := 0) hn rfl
  subst hlen
  simp only [sti] at h
  split at h
  · cases h
    intro p e s mid args below meth c hC H locs ls hL hSim hS
    obtain ⟨hx, hb, hml, hown, hts, hr, hlk, hnm, hKn, hE, hBs⟩ := id hC
    exact lv_idiv hx hb hd hcs.1 (K p e s mid args below meth c hC H locs ls hL hSim hS)
  · cases h
set_option maxHeartbeats 1000000 in
theorem ss_irem {γ : GE} {m : MI} {d mc ms : Nat} {Post : PT} (hm : OKm m) {pc : Nat} {L : List (Option Value)} {st : List Value} {S : List Sh} {I : AI} {J : AJ} {k u n : Nat} {v : Int32} {t : Nat} {cs : List Prop} {σ' : AS}  (hl : lk (mT m) pc = some (.irem, n, v, t)) (h : sti γ m mc ms (.irem) n v t (pc, L, st, S, I, J, k, u) = some (cs, σ')) (hcs : AllP cs) (K : Rj γ m d mc ms Post σ') : Rj γ m d mc ms Post (pc, L, st, S, I, J, k, u) := by
  obtain ⟨hd, hn⟩ := hm.ins hl
  have hlen := len_of (k := 0) hn rfl
  subst hlen
  simp only [sti] at h
  split at h
  · cases h
    intro p e s mid args below meth c hC H locs ls hL hSim hS
    obtain ⟨hx, hb, hml, hown, hts, hr, hlk, hnm, hKn, hE, hBs⟩ := id hC
    exact lv_irem hx hb hd hcs.1 (K p e s mid args below meth c hC H locs ls hL hSim hS)
  · cases h
set_option maxHeartbeats 1000000 in
theorem ss_dup {γ : GE} {m : MI} {d mc ms : Nat} {Post : PT} (hm : OKm m) {pc : Nat} {L : List (Option Value)} {st : List Value} {S : List Sh} {I : AI} {J : AJ} {k u n : Nat} {v : Int32} {t : Nat} {cs : List Prop} {σ' : AS}  (hl : lk (mT m) pc = some (.dup, n, v, t)) (h : sti γ m mc ms (.dup) n v t (pc, L, st, S, I, J, k, u) = some (cs, σ')) (hcs : AllP cs) (K : Rj γ m d mc ms Post σ') : Rj γ m d mc ms Post (pc, L, st, S, I, J, k, u) := by
  obtain ⟨hd, hn⟩ := hm.ins hl
  have hlen := len_of (k := 0) hn rfl
  subst hlen
  simp only [sti] at h
  split at h
  · cases h
  · cases h
  · rename_i a r h1 h2
    cases h
    intro p e s mid args below meth c hC H locs ls hL hSim hS
    obtain ⟨hx, hb, hml, hown, hts, hr, hlk, hnm, hKn, hE, hBs⟩ := id hC
    exact lv_dup hx hb hd (by rw [rv_cat]; cases a <;> first | rfl | exact (h1 _ rfl).elim | exact (h2 _ rfl).elim) (K p e s mid args below meth c hC H locs ls hL hSim hS)
  · cases h
set_option maxHeartbeats 1000000 in
theorem ss_pop {γ : GE} {m : MI} {d mc ms : Nat} {Post : PT} (hm : OKm m) {pc : Nat} {L : List (Option Value)} {st : List Value} {S : List Sh} {I : AI} {J : AJ} {k u n : Nat} {v : Int32} {t : Nat} {cs : List Prop} {σ' : AS}  (hl : lk (mT m) pc = some (.pop, n, v, t)) (h : sti γ m mc ms (.pop) n v t (pc, L, st, S, I, J, k, u) = some (cs, σ')) (hcs : AllP cs) (K : Rj γ m d mc ms Post σ') : Rj γ m d mc ms Post (pc, L, st, S, I, J, k, u) := by
  obtain ⟨hd, hn⟩ := hm.ins hl
  have hlen := len_of (k := 0) hn rfl
  subst hlen
  simp only [sti] at h
  split at h
  · cases h
  · cases h
  · rename_i a r h1 h2
    cases h
    intro p e s mid args below meth c hC H locs ls hL hSim hS
    obtain ⟨hx, hb, hml, hown, hts, hr, hlk, hnm, hKn, hE, hBs⟩ := id hC
    exact lv_pop hx hb hd (by rw [rv_cat]; cases a <;> first | rfl | exact (h1 _ rfl).elim | exact (h2 _ rfl).elim) (K p e s mid args below meth c hC H locs ls hL hSim hS)
  · cases h
set_option maxHeartbeats 1000000 in
theorem ss_dup2 {γ : GE} {m : MI} {d mc ms : Nat} {Post : PT} (hm : OKm m) {pc : Nat} {L : List (Option Value)} {st : List Value} {S : List Sh} {I : AI} {J : AJ} {k u n : Nat} {v : Int32} {t : Nat} {cs : List Prop} {σ' : AS}  (hl : lk (mT m) pc = some (.dup2, n, v, t)) (h : sti γ m mc ms (.dup2) n v t (pc, L, st, S, I, J, k, u) = some (cs, σ')) (hcs : AllP cs) (K : Rj γ m d mc ms Post σ') : Rj γ m d mc ms Post (pc, L, st, S, I, J, k, u) := by
  obtain ⟨hd, hn⟩ := hm.ins hl
  have hlen := len_of (k := 0) hn rfl
  subst hlen
  simp only [sti] at h
  split at h
  · cases h
    intro p e s mid args below meth c hC H locs ls hL hSim hS
    obtain ⟨hx, hb, hml, hown, hts, hr, hlk, hnm, hKn, hE, hBs⟩ := id hC
    exact lv_dup2_2 hx hb hd rfl (K p e s mid args below meth c hC H locs ls hL hSim hS)
  · cases h
    intro p e s mid args below meth c hC H locs ls hL hSim hS
    obtain ⟨hx, hb, hml, hown, hts, hr, hlk, hnm, hKn, hE, hBs⟩ := id hC
    exact lv_dup2_11 hx hb hd rfl rfl (K p e s mid args below meth c hC H locs ls hL hSim hS)
  · cases h
set_option maxHeartbeats 1000000 in
theorem ss_goto {γ : GE} {m : MI} {d mc ms : Nat} {Post : PT} (hm : OKm m) {pc : Nat} {L : List (Option Value)} {st : List Value} {S : List Sh} {I : AI} {J : AJ} {k u n : Nat} {v : Int32} {t : Nat} {cs : List Prop} {σ' : AS} {z : Int} (hl : lk (mT m) pc = some (.goto z, n, v, t)) (h : sti γ m mc ms (.goto z) n v t (pc, L, st, S, I, J, k, u) = some (cs, σ')) (hcs : AllP cs) (K : Rj γ m d mc ms Post σ') : Rj γ m d mc ms Post (pc, L, st, S, I, J, k, u) := by
  obtain ⟨hd, hn⟩ := hm.ins hl
  have hlen := len_of (k := 2) hn rfl
  subst hlen
  simp only [sti] at h
  cases h
  intro p e s mid args below meth c hC H locs ls hL hSim hS
  obtain ⟨hx, hb, hml, hown, hts, hr, hlk, hnm, hKn, hE, hBs⟩ := id hC
  exact lv_goto hx hb hd (num_of hn) (K p e s mid args below meth c hC H locs ls hL hSim hS)
set_option maxHeartbeats 1000000 in
theorem ss_getfield {γ : GE} {m : MI} {d mc ms : Nat} {Post : PT} (hm : OKm m) {pc : Nat} {L : List (Option Value)} {st : List Value} {S : List Sh} {I : AI} {J : AJ} {k u n : Nat} {v : Int32} {t : Nat} {cs : List Prop} {σ' : AS} {z : Nat} (hl : lk (mT m) pc = some (.getfield z, n, v, t)) (h : sti γ m mc ms (.getfield z) n v t (pc, L, st, S, I, J, k, u) = some (cs, σ')) (hcs : AllP cs) (K : Rj γ m d mc ms Post σ') : Rj γ m d mc ms Post (pc, L, st, S, I, J, k, u) := by
  obtain ⟨hd, hn⟩ := hm.ins hl
  have hlen := len_of (k := 2) hn rfl
  subst hlen
  simp only [sti] at h
  split at h
  · split at h
    · rename_i a r _ _ ci f y cj ks hf hs
      split at h
      · rename_i kd hbq hkd
        cases h
        have hcc := Nat.eq_of_beq_eq_true hbq
        subst hcc
        intro p e s mid args below meth c hC H locs ls hL hSim hS
        obtain ⟨hx, hb, hml, hown, hts, hr, hlk, hnm, hKn, hE, hBs⟩ := id hC
        obtain ⟨rc, g1, g2, g3, -⟩ := fld_of (hm.1.1 _ (lk_mem hf))
        exact am_get hx hb hts hown hKn hSim g1 g2 g3 hs hkd hd (K p e s mid args below meth c hC H locs ls hL hSim hS)
      · cases h
    · cases h
  · cases h
set_option maxHeartbeats 1000000 in
theorem ss_putfield {γ : GE} {m : MI} {d mc ms : Nat} {Post : PT} (hm : OKm m) {pc : Nat} {L : List (Option Value)} {st : List Value} {S : List Sh} {I : AI} {J : AJ} {k u n : Nat} {v : Int32} {t : Nat} {cs : List Prop} {σ' : AS} {z : Nat} (hl : lk (mT m) pc = some (.putfield z, n, v, t)) (h : sti γ m mc ms (.putfield z) n v t (pc, L, st, S, I, J, k, u) = some (cs, σ')) (hcs : AllP cs) (K : Rj γ m d mc ms Post σ') : Rj γ m d mc ms Post (pc, L, st, S, I, J, k, u) := by
  obtain ⟨hd, hn⟩ := hm.ins hl
  have hlen := len_of (k := 2) hn rfl
  subst hlen
  simp only [sti] at h
  split at h
  · split at h
    · rename_i b a r _ _ ci f fi ty cj ks hf hs
      have hfo := fld_of (hm.1.1 _ (lk_mem hf))
      obtain ⟨rc, g1, g2, g3, g4, g5, g6, g7, g8, g9⟩ := hfo
      have hfinal : ∀ {meth : Method}, meth.name = (mY m).name → (Nat.beq ci cj && (!fi || mQ m)) = true → ¬ ty = 9 → (rc.2.1 f).2.2.2 = true → meth.name = "<init>" ∧ (rc.2.1 f).1 = mO m := by
        intro meth hnm hq h9 hfn
        rw [g4] at hfn
        rw [hfn] at hq
        rw [Bool.and_eq_true] at hq
        have hq2 : mQ m = true := by simpa using hq.2
        exact ⟨by rw [hnm]; exact hm.2.2.2.2.2.2.2 hq2, (g5 hfn).resolve_left h9⟩
      split at h
      · rename_i x0 hbq hkd
        have hcc := Nat.eq_of_beq_eq_true ((Bool.and_eq_true _ _).mp hbq).1
        subst hcc
        cases h
        intro p e s mid args below meth c hC H locs ls hL hSim hS
        obtain ⟨hx, hb, hml, hown, hts, hr, hlk, hnm, hKn, hE, hBs⟩ := id hC
        refine am_put (I' := upI I a f x0) (J' := J) (kd' := .inl 0) hx hb hts hown hKn hSim hS g1 g2 g3 hs hkd (hfinal hnm hbq (by decide)) (g6 rfl) rfl rfl (by simp [fv, upI, rv]) ?_ ?_ ?_ ?_ hd (fun H1 locs1 hSim1 hS1 => ?_)
        · intro x hx; first | rfl | exact upI_ne hx
        · intro x hx; first | rfl | exact upJ_ne hx
        · intro x hx; first | rfl | simp [upI, hx]
        · intro x hx; first | rfl | simp [upJ, hx]
        · rw [ks_same hkd, set_same hs] at hSim1
          exact K p e s mid args below meth c hC H1 locs1 ls hL hSim1 hS1
      · rename_i x0 hbq hkd
        have hcc := Nat.eq_of_beq_eq_true ((Bool.and_eq_true _ _).mp hbq).1
        subst hcc
        cases h
        intro p e s mid args below meth c hC H locs ls hL hSim hS
        obtain ⟨hx, hb, hml, hown, hts, hr, hlk, hnm, hKn, hE, hBs⟩ := id hC
        have hz1 : narrow .boolean (rv γ (.int x0)) = rv γ (.int x0) := by show narrow .boolean (.int x0) = .int x0; rcases hcs.1 with rfl | rfl <;> decide +kernel
        have hz2 : fits .boolean (rv γ (.int x0)) = true := by show fits .boolean (.int x0) = true; rcases hcs.1 with rfl | rfl <;> decide +kernel
        refine am_put (I' := upI I a f x0) (J' := J) (kd' := .inl 0) hx hb hts hown hKn hSim hS g1 g2 g3 hs hkd (hfinal hnm hbq (by decide)) (g7 rfl) hz1 hz2 (by simp [fv, upI, rv]) ?_ ?_ ?_ ?_ hd (fun H1 locs1 hSim1 hS1 => ?_)
        · intro x hx; first | rfl | exact upI_ne hx
        · intro x hx; first | rfl | exact upJ_ne hx
        · intro x hx; first | rfl | simp [upI, hx]
        · intro x hx; first | rfl | simp [upJ, hx]
        · rw [ks_same hkd, set_same hs] at hSim1
          exact K p e s mid args below meth c hC H1 locs1 ls hL hSim1 hS1
      · rename_i x0 hbq hkd
        have hcc := Nat.eq_of_beq_eq_true ((Bool.and_eq_true _ _).mp hbq).1
        subst hcc
        cases h
        intro p e s mid args below meth c hC H locs ls hL hSim hS
        obtain ⟨hx, hb, hml, hown, hts, hr, hlk, hnm, hKn, hE, hBs⟩ := id hC
        refine am_put (I' := I) (J' := upJ J a f x0) (kd' := .inl 1) hx hb hts hown hKn hSim hS g1 g2 g3 hs hkd (hfinal hnm hbq (by decide)) (g8 rfl) rfl rfl (by simp [fv, upJ, rv]) ?_ ?_ ?_ ?_ hd (fun H1 locs1 hSim1 hS1 => ?_)
        · intro x hx; first | rfl | exact upI_ne hx
        · intro x hx; first | rfl | exact upJ_ne hx
        · intro x hx; first | rfl | simp [upI, hx]
        · intro x hx; first | rfl | simp [upJ, hx]
        · rw [ks_same hkd, set_same hs] at hSim1
          exact K p e s mid args below meth c hC H1 locs1 ls hL hSim1 hS1
      · rename_i hbq hkd
        have hcc := Nat.eq_of_beq_eq_true ((Bool.and_eq_true _ _).mp hbq).1
        subst hcc
        cases h
        intro p e s mid args below meth c hC H locs ls hL hSim hS
        obtain ⟨hx, hb, hml, hown, hts, hr, hlk, hnm, hKn, hE, hBs⟩ := id hC
        obtain ⟨tt, ht1, ht2⟩ := g9 rfl
        refine am_put (I' := I) (J' := J) (kd' := .inr (some _)) hx hb hts hown hKn hSim hS g1 g2 g3 hs hkd (hfinal hnm hbq (by decide)) ht1 (ref_fit ht2 _ (Or.inr ⟨_, rfl⟩)).1 (ref_fit ht2 _ (Or.inr ⟨_, rfl⟩)).2 rfl ?_ ?_ ?_ ?_ hd (fun H1 locs1 hSim1 hS1 => ?_)
        · intro x hx; first | rfl | exact upI_ne hx
        · intro x hx; first | rfl | exact upJ_ne hx
        · intro x hx; first | rfl | simp [upI, hx]
        · intro x hx; first | rfl | simp [upJ, hx]
        · exact K p e s mid args below meth c hC H1 locs1 ls hL hSim1 hS1
      · rename_i hbq hkd
        have hcc := Nat.eq_of_beq_eq_true ((Bool.and_eq_true _ _).mp hbq).1
        subst hcc
        cases h
        intro p e s mid args below meth c hC H locs ls hL hSim hS
        obtain ⟨hx, hb, hml, hown, hts, hr, hlk, hnm, hKn, hE, hBs⟩ := id hC
        obtain ⟨tt, ht1, ht2⟩ := g9 rfl
        refine am_put (I' := I) (J' := J) (kd' := .inr none) hx hb hts hown hKn hSim hS g1 g2 g3 hs hkd (hfinal hnm hbq (by decide)) ht1 (ref_fit ht2 _ (Or.inl rfl)).1 (ref_fit ht2 _ (Or.inl rfl)).2 rfl ?_ ?_ ?_ ?_ hd (fun H1 locs1 hSim1 hS1 => ?_)
        · intro x hx; first | rfl | exact upI_ne hx
        · intro x hx; first | rfl | exact upJ_ne hx
        · intro x hx; first | rfl | simp [upI, hx]
        · intro x hx; first | rfl | simp [upJ, hx]
        · exact K p e s mid args below meth c hC H1 locs1 ls hL hSim1 hS1
      · cases h
    · cases h
  · cases h
set_option maxHeartbeats 1000000 in
theorem ss_iaload {γ : GE} {m : MI} {d mc ms : Nat} {Post : PT} (hm : OKm m) {pc : Nat} {L : List (Option Value)} {st : List Value} {S : List Sh} {I : AI} {J : AJ} {k u n : Nat} {v : Int32} {t : Nat} {cs : List Prop} {σ' : AS}  (hl : lk (mT m) pc = some (.iaload, n, v, t)) (h : sti γ m mc ms (.iaload) n v t (pc, L, st, S, I, J, k, u) = some (cs, σ')) (hcs : AllP cs) (K : Rj γ m d mc ms Post σ') : Rj γ m d mc ms Post (pc, L, st, S, I, J, k, u) := by
  obtain ⟨hd, hn⟩ := hm.ins hl
  have hlen := len_of (k := 0) hn rfl
  subst hlen
  simp only [sti] at h
  split at h
  · split at h
    · rename_i hs
      cases h
      intro p e s mid args below meth c hC H locs ls hL hSim hS
      obtain ⟨hx, hb, hml, hown, hts, hr, hlk, hnm, hKn, hE, hBs⟩ := id hC
      exact va_iald hx hb hKn hSim.1 _ 0 (wld_get hs) rfl hcs.1 hd (K p e s mid args below meth c hC H locs ls hL hSim hS)
    · cases h
  · cases h
    intro p e s mid args below meth c hC H locs ls hL hSim hS
    obtain ⟨hx, hb, hml, hown, hts, hr, hlk, hnm, hKn, hE, hBs⟩ := id hC
    exact va_sld hx hb hE.1 hE.2.1 hE.2.2.1 hS hcs.1 hd (K p e s mid args below meth c hC H locs ls hL hSim hS)
  · cases h
set_option maxHeartbeats 1000000 in
theorem ss_baload {γ : GE} {m : MI} {d mc ms : Nat} {Post : PT} (hm : OKm m) {pc : Nat} {L : List (Option Value)} {st : List Value} {S : List Sh} {I : AI} {J : AJ} {k u n : Nat} {v : Int32} {t : Nat} {cs : List Prop} {σ' : AS}  (hl : lk (mT m) pc = some (.baload, n, v, t)) (h : sti γ m mc ms (.baload) n v t (pc, L, st, S, I, J, k, u) = some (cs, σ')) (hcs : AllP cs) (K : Rj γ m d mc ms Post σ') : Rj γ m d mc ms Post (pc, L, st, S, I, J, k, u) := by
  obtain ⟨hd, hn⟩ := hm.ins hl
  have hlen := len_of (k := 0) hn rfl
  subst hlen
  simp only [sti] at h
  split at h
  · split at h
    · rename_i hs
      cases h
      intro p e s mid args below meth c hC H locs ls hL hSim hS
      obtain ⟨hx, hb, hml, hown, hts, hr, hlk, hnm, hKn, hE, hBs⟩ := id hC
      exact va_zald hx hb hKn hSim.1 _ 2 (wld_get hs) rfl hcs.1 hd (K p e s mid args below meth c hC H locs ls hL hSim hS)
    · cases h
  · cases h
set_option maxHeartbeats 1000000 in
theorem ss_laload {γ : GE} {m : MI} {d mc ms : Nat} {Post : PT} (hm : OKm m) {pc : Nat} {L : List (Option Value)} {st : List Value} {S : List Sh} {I : AI} {J : AJ} {k u n : Nat} {v : Int32} {t : Nat} {cs : List Prop} {σ' : AS}  (hl : lk (mT m) pc = some (.laload, n, v, t)) (h : sti γ m mc ms (.laload) n v t (pc, L, st, S, I, J, k, u) = some (cs, σ')) (hcs : AllP cs) (K : Rj γ m d mc ms Post σ') : Rj γ m d mc ms Post (pc, L, st, S, I, J, k, u) := by
  obtain ⟨hd, hn⟩ := hm.ins hl
  have hlen := len_of (k := 0) hn rfl
  subst hlen
  simp only [sti] at h
  split at h
  · split at h
    · rename_i hs
      cases h
      intro p e s mid args below meth c hC H locs ls hL hSim hS
      obtain ⟨hx, hb, hml, hown, hts, hr, hlk, hnm, hKn, hE, hBs⟩ := id hC
      exact va_lald hx hb hKn hSim.1 _ 1 (wld_get hs) rfl hcs.1 hd (K p e s mid args below meth c hC H locs ls hL hSim hS)
    · cases h
  · cases h
set_option maxHeartbeats 1000000 in
theorem ss_aaload {γ : GE} {m : MI} {d mc ms : Nat} {Post : PT} (hm : OKm m) {pc : Nat} {L : List (Option Value)} {st : List Value} {S : List Sh} {I : AI} {J : AJ} {k u n : Nat} {v : Int32} {t : Nat} {cs : List Prop} {σ' : AS}  (hl : lk (mT m) pc = some (.aaload, n, v, t)) (h : sti γ m mc ms (.aaload) n v t (pc, L, st, S, I, J, k, u) = some (cs, σ')) (hcs : AllP cs) (K : Rj γ m d mc ms Post σ') : Rj γ m d mc ms Post (pc, L, st, S, I, J, k, u) := by
  obtain ⟨hd, hn⟩ := hm.ins hl
  have hlen := len_of (k := 0) hn rfl
  subst hlen
  simp only [sti] at h
  split at h
  · split at h
    · rename_i C nn rs hs
      cases h
      intro p e s mid args below meth c hC H locs ls hL hSim hS
      obtain ⟨hx, hb, hml, hown, hts, hr, hlk, hnm, hKn, hE, hBs⟩ := id hC
      have hC0 : C = RX0 ∨ C = RX4 := hcs.2.1
      rcases hC0 with rfl | rfl
      · refine va_aldq hx hb hKn hSim.1 _ 3 (wld_get hs) rfl hcs.1 hd ?_
        rw [rref_rv]
        exact (K p e s mid args below meth c hC H locs ls hL hSim hS)
      · refine va_aldq hx hb hKn hSim.1 _ 4 (wld_get hs) rfl hcs.1 hd ?_
        rw [rref_rv]
        exact (K p e s mid args below meth c hC H locs ls hL hSim hS)
    · cases h
  · cases h
set_option maxHeartbeats 1000000 in
theorem ss_iastore {γ : GE} {m : MI} {d mc ms : Nat} {Post : PT} (hm : OKm m) {pc : Nat} {L : List (Option Value)} {st : List Value} {S : List Sh} {I : AI} {J : AJ} {k u n : Nat} {v : Int32} {t : Nat} {cs : List Prop} {σ' : AS}  (hl : lk (mT m) pc = some (.iastore, n, v, t)) (h : sti γ m mc ms (.iastore) n v t (pc, L, st, S, I, J, k, u) = some (cs, σ')) (hcs : AllP cs) (K : Rj γ m d mc ms Post σ') : Rj γ m d mc ms Post (pc, L, st, S, I, J, k, u) := by
  obtain ⟨hd, hn⟩ := hm.ins hl
  have hlen := len_of (k := 0) hn rfl
  subst hlen
  simp only [sti] at h
  split at h
  · split at h
    · rename_i y x a r _ nn rs hs
      cases h
      intro p e s mid args below meth c hC H locs ls hL hSim hS
      obtain ⟨hx, hb, hml, hown, hts, hr, hlk, hnm, hKn, hE, hBs⟩ := id hC
      refine W.iast hx hb (hSim.1 _ _ (wld_get hs)) ((hKn.2 0 _ rfl).1 nn _) (fun q => by cases q) (by show ¬ (x < 0 ∨ (arrV _ _ _).slots.size ≤ _); rw [arrV_size]; exact hcs.1) rfl rfl hd fun H1 e1 z1 o1 => ?_
      have hSim1 := hSim.put (I' := upI I a x.toNatClampNeg y) (J' := J) hs (fun b hb => by first | rfl | exact upI_ne hb) (fun b hb => by first | rfl | exact upJ_ne hb) (sh' := .inl (.int, nn, rs)) (by
        show H1[g_ad γ a]? = some (vp_cell _ _)
        rw [e1]
        rw [upI_at]
        exact congrArg some (iast_cell _ _ _ _ _)
        ) z1 o1
      rw [set_same hs] at hSim1
      exact K p e s mid args below meth c hC H1 _ ls hL hSim1 (hS.put z1 o1 (hSim.inA hs))
    · cases h
  · cases h
set_option maxHeartbeats 1000000 in
theorem ss_lastore {γ : GE} {m : MI} {d mc ms : Nat} {Post : PT} (hm : OKm m) {pc : Nat} {L : List (Option Value)} {st : List Value} {S : List Sh} {I : AI} {J : AJ} {k u n : Nat} {v : Int32} {t : Nat} {cs : List Prop} {σ' : AS}  (hl : lk (mT m) pc = some (.lastore, n, v, t)) (h : sti γ m mc ms (.lastore) n v t (pc, L, st, S, I, J, k, u) = some (cs, σ')) (hcs : AllP cs) (K : Rj γ m d mc ms Post σ') : Rj γ m d mc ms Post (pc, L, st, S, I, J, k, u) := by
  obtain ⟨hd, hn⟩ := hm.ins hl
  have hlen := len_of (k := 0) hn rfl
  subst hlen
  simp only [sti] at h
  split at h
  · split at h
    · rename_i y x a r _ nn rs hs
      cases h
      intro p e s mid args below meth c hC H locs ls hL hSim hS
      obtain ⟨hx, hb, hml, hown, hts, hr, hlk, hnm, hKn, hE, hBs⟩ := id hC
      refine W.last hx hb (hSim.1 _ _ (wld_get hs)) ((hKn.2 1 _ rfl).1 nn _) (fun q => by cases q) (by show ¬ (x < 0 ∨ (arrV _ _ _).slots.size ≤ _); rw [arrV_size]; exact hcs.1) rfl rfl hd fun H1 e1 z1 o1 => ?_
      have hSim1 := hSim.put (I' := I) (J' := upJ J a x.toNatClampNeg y) hs (fun b hb => by first | rfl | exact upI_ne hb) (fun b hb => by first | rfl | exact upJ_ne hb) (sh' := .inl (.long, nn, rs)) (by
        show H1[g_ad γ a]? = some (vp_cell _ _)
        rw [e1]
        rw [upJ_at]
        exact congrArg some (last_cell _ _ _ _ _)
        ) z1 o1
      rw [set_same hs] at hSim1
      exact K p e s mid args below meth c hC H1 _ ls hL hSim1 (hS.put z1 o1 (hSim.inA hs))
    · cases h
  · cases h
set_option maxHeartbeats 1000000 in
theorem ss_bastore {γ : GE} {m : MI} {d mc ms : Nat} {Post : PT} (hm : OKm m) {pc : Nat} {L : List (Option Value)} {st : List Value} {S : List Sh} {I : AI} {J : AJ} {k u n : Nat} {v : Int32} {t : Nat} {cs : List Prop} {σ' : AS}  (hl : lk (mT m) pc = some (.bastore, n, v, t)) (h : sti γ m mc ms (.bastore) n v t (pc, L, st, S, I, J, k, u) = some (cs, σ')) (hcs : AllP cs) (K : Rj γ m d mc ms Post σ') : Rj γ m d mc ms Post (pc, L, st, S, I, J, k, u) := by
  obtain ⟨hd, hn⟩ := hm.ins hl
  have hlen := len_of (k := 0) hn rfl
  subst hlen
  simp only [sti] at h
  split at h
  · split at h
    · rename_i y x a r _ nn rs hs
      cases h
      intro p e s mid args below meth c hC H locs ls hL hSim hS
      obtain ⟨hx, hb, hml, hown, hts, hr, hlk, hnm, hKn, hE, hBs⟩ := id hC
      refine W.zast hx hb (hSim.1 _ _ (wld_get hs)) ((hKn.2 2 _ rfl).1 nn _) (fun q => by cases q) (by show ¬ (x < 0 ∨ (arrV _ _ _).slots.size ≤ _); rw [arrV_size]; exact hcs.1) rfl rfl hd fun H1 e1 z1 o1 => ?_
      have hSim1 := hSim.put (I' := upI I a x.toNatClampNeg y) (J' := J) hs (fun b hb => by first | rfl | exact upI_ne hb) (fun b hb => by first | rfl | exact upJ_ne hb) (sh' := .inl (.boolean, nn, rs)) (by
        show H1[g_ad γ a]? = some (vp_cell _ _)
        rw [e1]
        rw [upI_at]
        exact congrArg some (zast_cell _ _ _ _ _ hcs.2.1)
        ) z1 o1
      rw [set_same hs] at hSim1
      exact K p e s mid args below meth c hC H1 _ ls hL hSim1 (hS.put z1 o1 (hSim.inA hs))
    · cases h
  · cases h
set_option maxHeartbeats 1000000 in
theorem ss_arraylength {γ : GE} {m : MI} {d mc ms : Nat} {Post : PT} (hm : OKm m) {pc : Nat} {L : List (Option Value)} {st : List Value} {S : List Sh} {I : AI} {J : AJ} {k u n : Nat} {v : Int32} {t : Nat} {cs : List Prop} {σ' : AS}  (hl : lk (mT m) pc = some (.arraylength, n, v, t)) (h : sti γ m mc ms (.arraylength) n v t (pc, L, st, S, I, J, k, u) = some (cs, σ')) (hcs : AllP cs) (K : Rj γ m d mc ms Post σ') : Rj γ m d mc ms Post (pc, L, st, S, I, J, k, u) := by
  obtain ⟨hd, hn⟩ := hm.ins hl
  have hlen := len_of (k := 0) hn rfl
  subst hlen
  simp only [sti] at h
  split at h
  · split at h
    · rename_i hs
      cases h
      intro p e s mid args below meth c hC H locs ls hL hSim hS
      obtain ⟨hx, hb, hml, hown, hts, hr, hlk, hnm, hKn, hE, hBs⟩ := id hC
      exact va_alen hx hb hKn hSim.1 _ 0 (wld_get hs) rfl rfl hd (K p e s mid args below meth c hC H locs ls hL hSim hS)
    · rename_i hs
      cases h
      intro p e s mid args below meth c hC H locs ls hL hSim hS
      obtain ⟨hx, hb, hml, hown, hts, hr, hlk, hnm, hKn, hE, hBs⟩ := id hC
      exact va_alen hx hb hKn hSim.1 _ 1 (wld_get hs) rfl rfl hd (K p e s mid args below meth c hC H locs ls hL hSim hS)
    · cases h
  · cases h
    intro p e s mid args below meth c hC H locs ls hL hSim hS
    obtain ⟨hx, hb, hml, hown, hts, hr, hlk, hnm, hKn, hE, hBs⟩ := id hC
    exact va_slen hx hb hE.1 hE.2.1 hE.2.2.1 hS hd (K p e s mid args below meth c hC H locs ls hL hSim hS)
  · cases h
set_option maxHeartbeats 1000000 in
theorem ss_ldc {γ : GE} {m : MI} {d mc ms : Nat} {Post : PT} (hm : OKm m) {pc : Nat} {L : List (Option Value)} {st : List Value} {S : List Sh} {I : AI} {J : AJ} {k u n : Nat} {v : Int32} {t : Nat} {cs : List Prop} {σ' : AS} {z : Nat} (hl : lk (mT m) pc = some (.ldc z, n, v, t)) (h : sti γ m mc ms (.ldc z) n v t (pc, L, st, S, I, J, k, u) = some (cs, σ')) (hcs : AllP cs) (K : Rj γ m d mc ms Post σ') : Rj γ m d mc ms Post (pc, L, st, S, I, J, k, u) := by
  obtain ⟨hd, hn⟩ := hm.ins hl
  have hlen := len_of (k := 1) hn rfl
  subst hlen
  simp only [sti] at h
  split at h
  · rename_i hq
    cases h
    intro p e s mid args below meth c hC H locs ls hL hSim hS
    obtain ⟨hx, hb, hml, hown, hts, hr, hlk, hnm, hKn, hE, hBs⟩ := id hC
    obtain ⟨pp, h1⟩ := hm.1.2.1 _ (lk_mem hq)
    unfold cstOK at h1
    exact lv_ldc hx hb hown (hts _ (inT_in h1)) hd (K p e s mid args below meth c hC H locs ls hL hSim hS)
  · rename_i x hq
    cases h
    intro p e s mid args below meth c hC H locs ls hL hSim hS
    obtain ⟨hx, hb, hml, hown, hts, hr, hlk, hnm, hKn, hE, hBs⟩ := id hC
    obtain ⟨pp, h1⟩ := hm.1.2.1 _ (lk_mem hq)
    unfold cstOK at h1
    simp only [Bool.and_eq_true, Bool.or_eq_true, decide_eq_true_eq] at h1
    obtain ⟨ho, ⟨e1, e2⟩ | ⟨e1, e2⟩⟩ := h1
    · have e1 := Nat.eq_of_beq_eq_true e1
      have e2 : z = 128 := Nat.eq_of_beq_eq_true e2
      subst e1; subst e2
      exact va_ldcS hx hb (own := RX5) (by rw [← ho]; exact hown) hE.2.2.2.2.2.1 hd (K p e s mid args below meth c hC H locs ls hL hSim hS)
    · have e1 := Nat.eq_of_beq_eq_true e1
      have e2 : z = 120 := Nat.eq_of_beq_eq_true e2
      subst e1; subst e2
      exact va_ldcS hx hb (own := RX5) (by rw [← ho]; exact hown) hE.2.2.2.2.2.2.1 hd (K p e s mid args below meth c hC H locs ls hL hSim hS)
  · cases h
set_option maxHeartbeats 1000000 in
theorem ss_ldc_w {γ : GE} {m : MI} {d mc ms : Nat} {Post : PT} (hm : OKm m) {pc : Nat} {L : List (Option Value)} {st : List Value} {S : List Sh} {I : AI} {J : AJ} {k u n : Nat} {v : Int32} {t : Nat} {cs : List Prop} {σ' : AS} {z : Nat} (hl : lk (mT m) pc = some (.ldc_w z, n, v, t)) (h : sti γ m mc ms (.ldc_w z) n v t (pc, L, st, S, I, J, k, u) = some (cs, σ')) (hcs : AllP cs) (K : Rj γ m d mc ms Post σ') : Rj γ m d mc ms Post (pc, L, st, S, I, J, k, u) := by
  obtain ⟨hd, hn⟩ := hm.ins hl
  have hlen := len_of (k := 2) hn rfl
  subst hlen
  simp only [sti] at h
  split at h
  · rename_i hq
    cases h
    intro p e s mid args below meth c hC H locs ls hL hSim hS
    obtain ⟨hx, hb, hml, hown, hts, hr, hlk, hnm, hKn, hE, hBs⟩ := id hC
    obtain ⟨pp, h1⟩ := hm.1.2.1 _ (lk_mem hq)
    unfold cstOK at h1
    exact lv_ldcw hx hb hown (hts _ (inT_in h1)) hd (K p e s mid args below meth c hC H locs ls hL hSim hS)
  · cases h
set_option maxHeartbeats 1000000 in
theorem ss_ldc2_w {γ : GE} {m : MI} {d mc ms : Nat} {Post : PT} (hm : OKm m) {pc : Nat} {L : List (Option Value)} {st : List Value} {S : List Sh} {I : AI} {J : AJ} {k u n : Nat} {v : Int32} {t : Nat} {cs : List Prop} {σ' : AS} {z : Nat} (hl : lk (mT m) pc = some (.ldc2_w z, n, v, t)) (h : sti γ m mc ms (.ldc2_w z) n v t (pc, L, st, S, I, J, k, u) = some (cs, σ')) (hcs : AllP cs) (K : Rj γ m d mc ms Post σ') : Rj γ m d mc ms Post (pc, L, st, S, I, J, k, u) := by
  obtain ⟨hd, hn⟩ := hm.ins hl
  have hlen := len_of (k := 2) hn rfl
  subst hlen
  simp only [sti] at h
  split at h
  · rename_i hq
    cases h
    intro p e s mid args below meth c hC H locs ls hL hSim hS
    obtain ⟨hx, hb, hml, hown, hts, hr, hlk, hnm, hKn, hE, hBs⟩ := id hC
    obtain ⟨pp, h1⟩ := hm.1.2.1 _ (lk_mem hq)
    unfold cstOK at h1
    exact lv_ldc2 hx hb hown (hts _ (inT_in h1)) hd (K p e s mid args below meth c hC H locs ls hL hSim hS)
  · cases h
set_option maxHeartbeats 1000000 in
theorem ss_invokespecial {γ : GE} {m : MI} {d mc ms : Nat} {Post : PT} (hm : OKm m) {pc : Nat} {L : List (Option Value)} {st : List Value} {S : List Sh} {I : AI} {J : AJ} {k u n : Nat} {v : Int32} {t : Nat} {cs : List Prop} {σ' : AS} {z : Nat} (hl : lk (mT m) pc = some (.invokespecial z, n, v, t)) (h : sti γ m mc ms (.invokespecial z) n v t (pc, L, st, S, I, J, k, u) = some (cs, σ')) (hcs : AllP cs) (K : Rj γ m d mc ms Post σ') : Rj γ m d mc ms Post (pc, L, st, S, I, J, k, u) := by
  obtain ⟨hd, hn⟩ := hm.ins hl
  have hlen := len_of (k := 2) hn rfl
  subst hlen
  simp only [sti] at h
  split at h
  · split at h
    · rename_i x r _ hq
      cases h
      rw [Bool.and_eq_true] at hq
      intro p e s mid args below meth c hC H locs ls hL hSim hS
      obtain ⟨hx, hb, hml, hown, hts, hr, hlk, hnm, hKn, hE, hBs⟩ := id hC
      obtain ⟨pp, h1⟩ := hm.1.2.2.2.2.1 z (by simpa using hq.1)
      have hle := Nat.le_of_ble_eq_true hq.2
      exact W.objInit hx hb hown (hts _ (inT_in h1)) (hts _ (inT_in oinitOK.1)) (hts _ (inT_in oinitOK.2)) rfl (hL.1.trans hml.symm) rfl hd (by show 1 ≤ d + 1; omega) (Nat.le_trans (Nat.add_le_add_right (lv_room (m := mid) (pc := pc) (ls := ls) (rest := List.map (rv γ) (Value.ref x :: r)) (st := List.map (rv γ) r) (by rw [rv_sum γ r]; exact hle)) 12) (by show 20 ≤ 64 * (d + 1); omega)) (K p e s mid args below meth c hC H locs ls hL hSim hS)
    · cases h
  · cases h
