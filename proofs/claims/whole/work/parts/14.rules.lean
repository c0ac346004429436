set_option maxHeartbeats 4000000 in
theorem stp_ok {γ : GE} {m : MI} {d mc ms : Nat} {Post : PT} (hm : OKm m) {σ σ' : AS} {cs : List Prop} (h : stp γ m mc ms σ = some (cs, σ')) (hcs : AllP cs) (K : Rj γ m d mc ms Post σ') : Rj γ m d mc ms Post σ := by
  obtain ⟨pc, L, st, S, I, J, k, u⟩ := σ
  unfold stp at h
  split at h
  · rename_i ins n v t hl
    have hl : lk (mT m) pc = some (ins, n, v, t) := hl
    cases ins
    case iconst => exact ss_iconst hm hl h hcs K
    case bipush => exact ss_bipush hm hl h hcs K
    case sipush => exact ss_sipush hm hl h hcs K
    case lconst => exact ss_lconst hm hl h hcs K
    case iload_n => exact ss_iload_n hm hl h hcs K
    case iload => exact ss_iload hm hl h hcs K
    case lload_n => exact ss_lload_n hm hl h hcs K
    case lload => exact ss_lload hm hl h hcs K
    case aload_n => exact ss_aload_n hm hl h hcs K
    case aload => exact ss_aload hm hl h hcs K
    case istore_n => exact ss_istore_n hm hl h hcs K
    case istore => exact ss_istore hm hl h hcs K
    case lstore_n => exact ss_lstore_n hm hl h hcs K
    case lstore => exact ss_lstore hm hl h hcs K
    case astore_n => exact ss_astore_n hm hl h hcs K
    case astore => exact ss_astore hm hl h hcs K
    case iinc => exact ss_iinc hm hl h hcs K
    case iadd => exact ss_iadd hm hl h hcs K
    case isub => exact ss_isub hm hl h hcs K
    case imul => exact ss_imul hm hl h hcs K
    case iand => exact ss_iand hm hl h hcs K
    case ior => exact ss_ior hm hl h hcs K
    case ixor => exact ss_ixor hm hl h hcs K
    case ishl => exact ss_ishl hm hl h hcs K
    case ishr => exact ss_ishr hm hl h hcs K
    case ineg => exact ss_ineg hm hl h hcs K
    case ladd => exact ss_ladd hm hl h hcs K
    case lsub => exact ss_lsub hm hl h hcs K
    case lmul => exact ss_lmul hm hl h hcs K
    case land => exact ss_land hm hl h hcs K
    case lor => exact ss_lor hm hl h hcs K
    case lxor => exact ss_lxor hm hl h hcs K
    case iushr => exact ss_iushr hm hl h hcs K
    case lshl => exact ss_lshl hm hl h hcs K
    case lshr => exact ss_lshr hm hl h hcs K
    case lushr => exact ss_lushr hm hl h hcs K
    case i2l => exact ss_i2l hm hl h hcs K
    case l2i => exact ss_l2i hm hl h hcs K
    case i2b => exact ss_i2b hm hl h hcs K
    case i2c => exact ss_i2c hm hl h hcs K
    case lcmp => exact ss_lcmp hm hl h hcs K
    case idiv => exact ss_idiv hm hl h hcs K
    case irem => exact ss_irem hm hl h hcs K
    case dup => exact ss_dup hm hl h hcs K
    case pop => exact ss_pop hm hl h hcs K
    case dup2 => exact ss_dup2 hm hl h hcs K
    case goto => exact ss_goto hm hl h hcs K
    case getfield => exact ss_getfield hm hl h hcs K
    case putfield => exact ss_putfield hm hl h hcs K
    case iaload => exact ss_iaload hm hl h hcs K
    case baload => exact ss_baload hm hl h hcs K
    case laload => exact ss_laload hm hl h hcs K
    case aaload => exact ss_aaload hm hl h hcs K
    case iastore => exact ss_iastore hm hl h hcs K
    case lastore => exact ss_lastore hm hl h hcs K
    case bastore => exact ss_bastore hm hl h hcs K
    case arraylength => exact ss_arraylength hm hl h hcs K
    case ldc => exact ss_ldc hm hl h hcs K
    case ldc_w => exact ss_ldc_w hm hl h hcs K
    case ldc2_w => exact ss_ldc2_w hm hl h hcs K
    case invokespecial => exact ss_invokespecial hm hl h hcs K
    all_goals (simp only [sti] at h; cases h)
  · cases h
theorem AllP_app : ∀ {a b : List Prop}, AllP (a ++ b) → AllP a ∧ AllP b
  | [], _, h => ⟨trivial, h⟩
  | _ :: _, _, h => ⟨⟨h.1, (AllP_app h.2).1⟩, (AllP_app h.2).2⟩
/-- a straight stretch of n instructions -/
theorem r_run {γ : GE} {m : MI} {d mc ms : Nat} {Post : PT} (hm : OKm m) (n : Nat) {σ σ' : AS} {cs : List Prop} (h : run γ m mc ms n σ = some (cs, σ')) (hcs : AllP cs) (K : Rj γ m d mc ms Post σ') : Rj γ m d mc ms Post σ := by
  induction n generalizing σ cs with
  | zero =>
    unfold run at h
    cases h
    exact K
  | succ j ih =>
    unfold run at h
    split at h
    · rename_i c1 σ1 h1
      split at h
      · rename_i c2 σ2 h2
        cases h
        obtain ⟨q1, q2⟩ := AllP_app hcs
        exact stp_ok hm h1 q1 (ih h2 q2)
      · cases h
    · cases h
def leL : List (Option Value) → List (Option Value) → Prop
  | [], [] => True
  | none :: a, _ :: b => leL a b
  | some v :: a, some w :: b => v = w ∧ leL a b
  | _, _ => False
theorem leL_len : ∀ {a b : List (Option Value)}, leL a b → a.length = b.length
  | [], [], _ => rfl
  | none :: _, _ :: _, h => congrArg (· + 1) (leL_len (h : leL _ _))
  | some _ :: _, some _ :: _, h => congrArg (· + 1) (leL_len h.2)
  | [], _ :: _, h => h.elim
  | some _ :: _, none :: _, h => h.elim
  | some _ :: _, [], h => h.elim
  | none :: _, [], h => h.elim
theorem leL_get : ∀ {a b : List (Option Value)}, leL a b → ∀ (i : Nat) (v : Value), a[i]? = some (some v) → b[i]? = some (some v)
  | [], _, _, i, v, h => by simp at h
  | none :: _, _ :: _, _, 0, v, h => by simp at h
  | none :: a, _ :: b, hl, i + 1, v, h => by
    rw [List.getElem?_cons_succ] at h ⊢
    exact leL_get (a := a) (b := b) hl i v h
  | some x :: _, some y :: _, hl, 0, v, h => by
    rw [List.getElem?_cons_zero] at h ⊢
    rw [← hl.1]; exact h
  | some x :: _, some y :: _, hl, i + 1, v, h => by
    rw [List.getElem?_cons_succ] at h ⊢
    exact leL_get hl.2 i v h
  | some _ :: _, none :: _, hl, _, _, _ => hl.elim
  | some _ :: _, [], hl, _, _, _ => hl.elim
  | none :: _, [], hl, _, _, _ => hl.elim
/-- fewer locals known -/
theorem r_weak {γ : GE} {m : MI} {d mc ms : Nat} {Post : PT} {pc : Nat} {L L' : List (Option Value)} {st : List Value} {S : List Sh} {I : AI} {J : AJ} {k u : Nat} (h : leL L' L) (K : Rj γ m d mc ms Post (pc, L', st, S, I, J, k, u)) : Rj γ m d mc ms Post (pc, L, st, S, I, J, k, u) := by
  intro p e s mid args below meth c hC H locs ls hL hSim hS
  exact K p e s mid args below meth c hC H locs ls ⟨hL.1, (leL_len h).trans hL.2.1, hL.2.2.1, fun i v hv => hL.2.2.2 i v (leL_get h i v hv)⟩ hSim hS
/-- a weaker end -/
theorem r_post {γ : GE} {m : MI} {d mc ms : Nat} {Post Post' : PT} (h : ∀ v S I J, Post' v S I J → Post v S I J) {σ : AS} (K : Rj γ m d mc ms Post' σ) : Rj γ m d mc ms Post σ := by
  intro p e s mid args below meth c hC H locs ls hL hSim hS
  intro T hT X
  obtain ⟨t, a, o, b1, b2, ⟨⟨v, S', I', J', q1, q2, q3⟩, q4⟩, b4⟩ := K p e s mid args below meth c hC H locs ls hL hSim hS T hT X
  exact ⟨t, a, o, b1, b2, ⟨⟨v, S', I', J', q1, h _ _ _ _ q2, q3⟩, q4⟩, b4⟩
theorem ct_post {γ : GE} {m : MI} {d mc ms : Nat} {as : List Value} {S : List Sh} {I : AI} {J : AJ} {Post Post' : PT} (h : ∀ v S I J, Post' v S I J → Post v S I J) (K : Ct γ m d mc ms as S I J Post') : Ct γ m d mc ms as S I J Post := by
  intro p e ha hc hk s mid args below hf hfit hP hK'
  obtain ⟨t, o, a1, b1, b2, ⟨⟨v, S', I', J', q1, q2, q3⟩, q4⟩, b4⟩ := K p e ha hc hk s mid args below hf hfit hP hK'
  exact ⟨t, o, a1, b1, b2, ⟨⟨v, S', I', J', q1, h _ _ _ _ q2, q3⟩, q4⟩, b4⟩
def cI : ClassFile.Cond → Int32 → Int32 → Prop
  | .eq, x, y => x = y
  | .ne, x, y => ¬ x = y
  | .lt, x, y => x < y
  | .ge, x, y => y ≤ x
  | .gt, x, y => y < x
  | .le, x, y => x ≤ y
section RULES
variable {γ : GE} {m : MI} {d mc ms : Nat} {Post : PT} {pc : Nat} {L : List (Option Value)} {st rest : List Value} {S : List Sh} {I : AI} {J : AJ} {k u : Nat} {v0 : Int32} {t n : Nat}
theorem r_icmp (hm : OKm m) {cd : ClassFile.Cond} {z : Int} {x y : Int32} (hl : lk (mT m) pc = some (.if_icmp cd z, n, v0, t)) (K1 : cI cd x y → Rj γ m d mc ms Post (t, L, rest, S, I, J, k, u)) (K2 : ¬ cI cd x y → Rj γ m d mc ms Post (pc + 3, L, rest, S, I, J, k, u)) : Rj γ m d mc ms Post (pc, L, .int y :: .int x :: rest, S, I, J, k, u) := by
  obtain ⟨hd, hn⟩ := hm.ins hl
  have hlen := len_of (k := 2) hn rfl
  subst hlen
  have ht := num_of hn
  intro p e s mid args below meth c hC H locs ls hL hSim hS
  have hx := hC.1
  have hb := hC.2.1
  cases cd
  · exact lv_icmp_eq hx hb hd ht (fun h => K1 h p e s mid args below meth c hC H locs ls hL hSim hS) (fun h => K2 h p e s mid args below meth c hC H locs ls hL hSim hS)
  · exact lv_icmp_ne hx hb hd ht (fun h => K1 h p e s mid args below meth c hC H locs ls hL hSim hS) (fun h => K2 (fun q => q h) p e s mid args below meth c hC H locs ls hL hSim hS)
  · exact lv_icmp_lt hx hb hd ht (fun h => K1 h p e s mid args below meth c hC H locs ls hL hSim hS) (fun h => K2 h p e s mid args below meth c hC H locs ls hL hSim hS)
  · exact lv_icmp_ge hx hb hd ht (fun h => K1 h p e s mid args below meth c hC H locs ls hL hSim hS) (fun h => K2 h p e s mid args below meth c hC H locs ls hL hSim hS)
  · exact lv_icmp_gt hx hb hd ht (fun h => K1 h p e s mid args below meth c hC H locs ls hL hSim hS) (fun h => K2 h p e s mid args below meth c hC H locs ls hL hSim hS)
  · exact lv_icmp_le hx hb hd ht (fun h => K1 h p e s mid args below meth c hC H locs ls hL hSim hS) (fun h => K2 h p e s mid args below meth c hC H locs ls hL hSim hS)
theorem r_ifc (hm : OKm m) {cd : ClassFile.Cond} {z : Int} {x : Int32} (hl : lk (mT m) pc = some (.ifCond cd z, n, v0, t)) (K1 : cI cd x 0 → Rj γ m d mc ms Post (t, L, rest, S, I, J, k, u)) (K2 : ¬ cI cd x 0 → Rj γ m d mc ms Post (pc + 3, L, rest, S, I, J, k, u)) : Rj γ m d mc ms Post (pc, L, .int x :: rest, S, I, J, k, u) := by
  obtain ⟨hd, hn⟩ := hm.ins hl
  have hlen := len_of (k := 2) hn rfl
  subst hlen
  have ht := num_of hn
  intro p e s mid args below meth c hC H locs ls hL hSim hS
  have hx := hC.1
  have hb := hC.2.1
  cases cd
  · exact lv_if_eq hx hb hd ht (fun h => K1 h p e s mid args below meth c hC H locs ls hL hSim hS) (fun h => K2 h p e s mid args below meth c hC H locs ls hL hSim hS)
  · exact lv_if_ne hx hb hd ht (fun h => K1 h p e s mid args below meth c hC H locs ls hL hSim hS) (fun h => K2 (fun q => q h) p e s mid args below meth c hC H locs ls hL hSim hS)
  · exact lv_if_lt hx hb hd ht (fun h => K1 h p e s mid args below meth c hC H locs ls hL hSim hS) (fun h => K2 h p e s mid args below meth c hC H locs ls hL hSim hS)
  · exact lv_if_ge hx hb hd ht (fun h => K1 h p e s mid args below meth c hC H locs ls hL hSim hS) (fun h => K2 h p e s mid args below meth c hC H locs ls hL hSim hS)
  · exact lv_if_gt hx hb hd ht (fun h => K1 h p e s mid args below meth c hC H locs ls hL hSim hS) (fun h => K2 h p e s mid args below meth c hC H locs ls hL hSim hS)
  · exact lv_if_le hx hb hd ht (fun h => K1 h p e s mid args below meth c hC H locs ls hL hSim hS) (fun h => K2 h p e s mid args below meth c hC H locs ls hL hSim hS)
theorem r_tblIn (hm : OKm m) {df lo hi : Int} {offs : Array Int} {x : Int32} {off : Int} {tgt : Nat} (hl : lk (mT m) pc = some (.tableswitch df lo hi offs, n, v0, t)) (h1 : ¬ x.toInt < lo) (h2 : ¬ hi < x.toInt) (ho : offs[(x.toInt - lo).toNat]? = some off) (ht : (pc : Int) + off = (tgt : Int)) (K : Rj γ m d mc ms Post (tgt, L, rest, S, I, J, k, u)) : Rj γ m d mc ms Post (pc, L, .int x :: rest, S, I, J, k, u) := by
  obtain ⟨hd, hn⟩ := hm.ins hl
  intro p e s mid args below meth c hC H locs ls hL hSim hS
  exact lv_tableIn hC.1 hC.2.1 hd h1 h2 ho ht (K p e s mid args below meth c hC H locs ls hL hSim hS)
theorem r_tblOut (hm : OKm m) {df lo hi : Int} {offs : Array Int} {x : Int32} {tgt : Nat} (hl : lk (mT m) pc = some (.tableswitch df lo hi offs, n, v0, t)) (h : x.toInt < lo ∨ hi < x.toInt) (ht : (pc : Int) + df = (tgt : Int)) (K : Rj γ m d mc ms Post (tgt, L, rest, S, I, J, k, u)) : Rj γ m d mc ms Post (pc, L, .int x :: rest, S, I, J, k, u) := by
  obtain ⟨hd, hn⟩ := hm.ins hl
  intro p e s mid args below meth c hC H locs ls hL hSim hS
  exact lv_tableOut hC.1 hC.2.1 hd h ht (K p e s mid args below meth c hC H locs ls hL hSim hS)
theorem r_look (hm : OKm m) {df : Int} {ps : Array (Int × Int)} {x : Int32} {off : Int} {tgt : Nat} (hl : lk (mT m) pc = some (.lookupswitch df ps, n, v0, t)) (hp : (ps.toList.zip (ps.toList.drop 1)).all (fun (a, next) => a.1 < next.1) = true) (ho : Op.lookupswitch.offset ps.toList df x.toInt = off) (ht : (pc : Int) + off = (tgt : Int)) (K : Rj γ m d mc ms Post (tgt, L, rest, S, I, J, k, u)) : Rj γ m d mc ms Post (pc, L, .int x :: rest, S, I, J, k, u) := by
  obtain ⟨hd, hn⟩ := hm.ins hl
  intro p e s mid args below meth c hC H locs ls hL hSim hS
  exact lv_lookup hC.1 hC.2.1 hd hp ho ht (K p e s mid args below meth c hC H locs ls hL hSim hS)
theorem r_iret (hm : OKm m) {x : Int32} {ty : FieldType} (hl : lk (mT m) pc = some (.ireturn, n, v0, t)) (hr : mR m = some ty) (hn : narrow ty (.int x) = .int x) (hk : k ≤ mc) (hu : u ≤ ms) (hp : Post (some (.int x)) S I J) : Rj γ m d mc ms Post (pc, L, [.int x], S, I, J, k, u) := by
  obtain ⟨hd, hn0⟩ := hm.ins hl
  have hlen := len_of (k := 0) hn0 rfl
  subst hlen
  intro p e s mid args below meth c hC H locs ls hL hSim hS
  obtain ⟨hx, hb, hml, hown, hts, hrr, hlk, hnm, hKn, hE, hBs⟩ := id hC
  refine W.widen (k := mc) (n := ms) hk hu ?_
  exact W.zret hx hb (hrr.trans hr) hn (fun t ht hW => ⟨⟨some (.int x), S, I, J, rfl, hp, by rw [ht]; exact hSim⟩, hS.F ht⟩) hS.2.2 hd hlk
theorem r_lret (hm : OKm m) {x : Int64} (hl : lk (mT m) pc = some (.lreturn, n, v0, t)) (hr : mR m = some .long) (hk : k ≤ mc) (hu : u ≤ ms) (hp : Post (some (.long x)) S I J) : Rj γ m d mc ms Post (pc, L, [.long x], S, I, J, k, u) := by
  obtain ⟨hd, hn0⟩ := hm.ins hl
  have hlen := len_of (k := 0) hn0 rfl
  subst hlen
  intro p e s mid args below meth c hC H locs ls hL hSim hS
  obtain ⟨hx, hb, hml, hown, hts, hrr, hlk, hnm, hKn, hE, hBs⟩ := id hC
  refine W.widen (k := mc) (n := ms) hk hu ?_
  exact W.lret hx hb (hrr.trans hr) (fun t ht hW => ⟨⟨some (.long x), S, I, J, rfl, hp, by rw [ht]; exact hSim⟩, hS.F ht⟩) hS.2.2 hd hlk
theorem r_vret (hm : OKm m) (hl : lk (mT m) pc = some (.return_, n, v0, t)) (hr : mR m = none) (hk : k ≤ mc) (hu : u ≤ ms) (hp : Post none S I J) : Rj γ m d mc ms Post (pc, L, [], S, I, J, k, u) := by
  obtain ⟨hd, hn0⟩ := hm.ins hl
  have hlen := len_of (k := 0) hn0 rfl
  subst hlen
  intro p e s mid args below meth c hC H locs ls hL hSim hS
  obtain ⟨hx, hb, hml, hown, hts, hrr, hlk, hnm, hKn, hE, hBs⟩ := id hC
  refine W.widen (k := mc) (n := ms) hk hu ?_
  exact W.vret hx hb (hrr.trans hr) (fun t ht hW => ⟨⟨none, S, I, J, rfl, hp, by rw [ht]; exact hSim⟩, hS.F ht⟩) hS.2.2 hd hlk
theorem r_aret (hm : OKm m) {a : Nat} {rt : FieldType} (hl : lk (mT m) pc = some (.areturn, n, v0, t)) (hr : mR m = some rt) (hrt : (∃ n, rt = .object n) ∨ ∃ t, rt = .array t) (hk : k ≤ mc) (hu : u ≤ ms) (hp : Post (some (.ref a)) S I J) : Rj γ m d mc ms Post (pc, L, [.ref a], S, I, J, k, u) := by
  obtain ⟨hd, hn0⟩ := hm.ins hl
  have hlen := len_of (k := 0) hn0 rfl
  subst hlen
  intro p e s mid args below meth c hC H locs ls hL hSim hS
  obtain ⟨hx, hb, hml, hown, hts, hrr, hlk, hnm, hKn, hE, hBs⟩ := id hC
  refine W.widen (k := mc) (n := ms) hk hu ?_
  exact W.aret hx hb (hrr.trans hr) hrt (Or.inr ⟨_, rfl⟩) (fun t ht hW => ⟨⟨some (.ref a), S, I, J, rfl, hp, by rw [ht]; exact hSim⟩, hS.F ht⟩) hS.2.2 hd hlk
end RULES
/-! calls -/
theorem PC_blind {γ : GE} {as : List Value} {S : List Sh} {I : AI} {J : AJ} : FrameBlind (PC γ as S I J) := fun a U g mk h =>
  ⟨h.1, va_K.moved (u := U) (U := U.calling g mk a) (Vm.Alike.refl U.vm) h.2.1, h.2.2.1.call, h.2.2.2.1, h.2.2.2.2⟩
theorem am_go {γ : GE} {Post : PT} {p : Program} {l : Launch} {e : Env} {R : Room} {s : State} {m : MethodId} {args : Array Value} {below : List Frame} {meth : Method} {c : Code} {H : Heap} {locs : List Loc} {cells slots mc ms : Nat} {Q : State → Prop} {pc : Nat} {ls : Array Slot} {rest st0 : List Value} {a : Array Value}
    (hr : va_Run p l e R s m args below meth c H locs cells slots mc ms (F0 m pc ls st0) rest (QC γ Post a) (g_A γ)) (hS : va_S (g_A γ) s.heap H locs)
    (kk : ∀ (v : Option Value) (S : List Sh) (I : AI) (J : AJ) (H1 : Heap) (locs1 : List Loc), Post v S I J → Sim γ S I J H1 → va_S (g_A γ) s.heap H1 locs1 → W p l e R s m args below meth c H1 locs1 (cells + mc) (slots + ms) Q (F0 m (pc + 3) ls ((v.map (rv γ)).toList ++ rest))) : W p l e R s m args below meth c H locs cells slots Q (F0 m pc ls st0) := by
  intro T hT X
  obtain ⟨v, st₀, t, T', L, h0, X', hL, e1, e2, ⟨⟨v', S, I, J, hv, hp, hsim⟩, hz, hk⟩, st⟩ := hr T hT X
  cases hv
  rw [h0] at hz hk
  rw [← e1] at hsim
  obtain ⟨t2, a1, b1⟩ := kk v' S I J T'.heap (locs ++ L) hp hsim
    ⟨Nat.le_trans hS.1 (by rw [e1]; exact hz), fun q h1 h2 => by rw [e1, hk q (Nat.lt_of_lt_of_le h1 hS.1) h2]; exact hS.2.1 q h1 h2, fun q hq => by
      rcases List.mem_append.mp hq with h | h
      · exact hS.2.2 q h
      · exact hL q h⟩ T' rfl X'
  exact ⟨t2, st t2 a1, b1⟩
theorem kin_of {m' : MI} (h : OKk m') : ((mY m').cls ≠ "java/lang/invoke/MethodHandle" ∧ (mY m').cls ≠ "java/lang/invoke/VarHandle" ∧ (parseMethodDescriptor (mY m').desc).map (fun d => d.parameters.length) = some (mP m')) ∧ Jvm.Cond.initialized (mY m').cls ∈ gw_tbl ∧ (mK m' = 0 → Jvm.Cond.static (mY m') ∈ gw_tbl) ∧ (mK m' = 1 → Jvm.Cond.instanceMethod (mY m') ∈ gw_tbl ∧ Jvm.Cond.selects (mY m').cls (mY m') (mY m') ∈ gw_tbl) ∧ (mK m' = 2 → Jvm.Cond.instanceMethod (mY m') ∈ gw_tbl ∧ (mY m').name = "<init>" ∧ mR m' = none) := by
  obtain ⟨p1, p2, p3, h⟩ := h
  unfold kinOK at h
  simp only [Bool.and_eq_true, decide_eq_true_eq] at h
  obtain ⟨⟨⟨⟨h1, h2⟩, h3⟩, h4⟩, h5⟩ := h
  refine ⟨⟨h1, h2, h3⟩, inT_in h4, fun q => ?_, fun q => ?_, fun q => ?_⟩
  · rw [q] at h5; exact inT_in h5
  · rw [q] at h5
    simp only [Bool.and_eq_true] at h5
    exact ⟨inT_in h5.1, inT_in h5.2⟩
  · rw [q] at h5
    simp only [Bool.and_eq_true, decide_eq_true_eq] at h5
    exact ⟨inT_in h5.1.1, h5.1.2, h5.2⟩
theorem cal_of {own : String} {idx : Nat} {y : MethodName} (h : ∃ p, calOK own (idx, y) p = true) : Jvm.Cond.methodLink own idx y ∈ gw_tbl ∨ ∃ q ∈ nestL, q.1 = own ∧ q.2.1 = idx ∧ q.2.2.1 = y := by
  obtain ⟨p, h⟩ := h
  unfold calOK at h
  rw [Bool.or_eq_true] at h
  rcases h with h | h
  · exact Or.inl (inT_in h)
  · obtain ⟨q, hq, h1⟩ := List.any_eq_true.mp h
    simp only [Bool.and_eq_true, decide_eq_true_eq] at h1
    exact Or.inr ⟨q, hq, h1.1.1, Nat.eq_of_beq_eq_true h1.1.2, h1.2⟩
theorem nest_init : ∀ q ∈ nestL, q.2.2.1.name = "<init>" := by decide +kernel
theorem room_of {m' : MI} {d d' mc ms mc' ms' : Nat} (hm' : OKm m') (hd : d' < d) : (rmo d' mc' ms').frames + 1 ≤ (rmo d mc ms).frames ∧ 8 + (mL m' + 11) + (rmo d' mc' ms').locals ≤ (rmo d mc ms).locals := by
  have := hm'.2.2.2.2.1
  unfold rmo
  constructor
  · show d' + 1 + 1 ≤ d + 1; omega
  · show 8 + (mL m' + 11) + 64 * (d' + 1) ≤ 64 * (d + 1); omega
theorem good1 {w : Jvm.Cond} (h : w ∈ gw_tbl) : w ∈ gw_tbl ∧ ((w.onTables && w.keeps) = true ∨ ∃ ty, w = .arrayClass ty) := ⟨h, good_of_word (List.mem_filter.mp h).2⟩
theorem stk_map {γ : GE} {as rest : List Value} {x : Value} : (as.reverse ++ x :: rest).map (rv γ) = (as.map (rv γ)).reverse ++ rv γ x :: rest.map (rv γ) := by
  simp [List.map_append, List.map_reverse]
theorem stk_map0 {γ : GE} {as rest : List Value} : (as.reverse ++ rest).map (rv γ) = (as.map (rv γ)).reverse ++ rest.map (rv γ) := by
  simp [List.map_append, List.map_reverse]
theorem ret_map {γ : GE} {v : Option Value} {rest : List Value} : (v.map (rv γ)).toList ++ rest.map (rv γ) = (v.toList ++ rest).map (rv γ) := by
  cases v <;> simp
section CALLS
variable {γ : GE} {m m' : MI} {d d' mc ms mc' ms' : Nat} {Post Post' : PT} {pc : Nat} {L : List (Option Value)} {st : List Value} {S : List Sh} {I : AI} {J : AJ} {k u : Nat} {v0 : Int32} {t n idx : Nat}
/-- a method of an own object is called -/
theorem r_callV (hm : OKm m) (hm' : OKm m') (as rest : List Value) (a : Nat) (hl : lk (mT m) pc = some (.invokevirtual idx, n, v0, t)) (hst : st = as.reverse ++ .ref a :: rest) (hok : lk (mG m) idx = some (mY m')) (hki : OKk m') (hkd : mK m' = 1) (hnp : as.length = mP m') (hnoi : ¬ (mY m').name = "<init>") {ci : Nat} {ks : List Kd} {r : vw_C} (ha : S[a]? = some (.inr (ci, ks))) (hr : vwCl[ci]? = some r) (hcls : r.1 = (mY m').cls) (hd : d' < d) (hkk : k + mc' ≤ mc ∧ u + ms' ≤ ms) (hrs : (rest.map fun v => v.category).sum ≤ 8)
    (hC : Ct γ m' d' mc' ms' (.ref a :: as) S I J Post') (K : ∀ v S' I' J', Post' v S' I' J' → Rj γ m d mc ms Post (pc + 3, L, v.toList ++ rest, S', I', J', k + mc', u + ms')) : Rj γ m d mc ms Post (pc, L, st, S, I, J, k, u) := by
  obtain ⟨hdg, hn0⟩ := hm.ins hl
  have hlen := len_of (k := 2) hn0 rfl
  subst hlen
  subst hst
  intro p e s mid args below meth c hCx H locs ls hL hSim hS
  obtain ⟨hx, hb, hml, hown, hts, hrr, hlk, hnm, hKn, hE, hBs⟩ := id hCx
  obtain ⟨k1, k2, -, k4, -⟩ := kin_of hki
  obtain ⟨o2, o3⟩ := k4 hkd
  rw [← hnp] at k1
  have o1 : Jvm.Cond.methodLink (mO m) idx (mY m') ∈ gw_tbl := by
    rcases cal_of (hm.1.2.2.2.2.2 _ (lk_mem hok)) with h | ⟨q, hq, q1, q2, q3⟩
    · exact h
    · exfalso
      have h1 := nest_init q hq
      rw [q3] at h1
      exact hnoi h1
  have hT : GoodIn gw_tbl (wsV (mO m) idx (mY m').cls (mY m') (wsM m')) := by
    intro w hw
    unfold wsV at hw
    rcases List.mem_append.mp hw with hw | hw
    · simp only [List.mem_cons, List.not_mem_nil, or_false] at hw
      rcases hw with rfl | rfl | rfl | rfl
      · exact good1 o1
      · exact good1 o2
      · exact good1 o3
      · exact good1 k2
    · exact goodM hm' (by rw [hkd]; decide) w hw
  have hpre : PreV s H (mY m').cls (g_ad γ a) (PC γ (.ref a :: as) S I J) (as.map (rv γ)) := ⟨PC_blind, by rw [← hcls]; exact va_recv hKn hSim.1 hr (wld_get ha), fun U hU hW => ⟨rfl, va_K.moved hW.alike hKn, hE.go hS hU hW, by rw [hU]; exact Nat.le_trans hBs hS.1, by rw [hU]; exact hSim⟩⟩
  refine am_go (γ := γ) (Post := Post') (mc := mc') (ms := ms') (rest := rest.map (rv γ)) (a := (Value.ref (g_ad γ a) :: as.map (rv γ)).toArray) (va_runV (As := as.map (rv γ)) ⟨hx, hb, hml, hown, hts⟩ hC (cwV as.length hts hT rfl rfl rfl ⟨rfl, k1⟩ (room_of hm' hd)) hpre rfl (by rw [List.length_map]) hL.1 stk_map (lv_room (by rw [rv_sum]; exact hrs)) hdg hkk) hS (fun v S' I' J' H1 locs1 hp hs hS1 => ?_)
  rw [ret_map]
  exact K v S' I' J' hp p e s mid args below meth c hCx H1 locs1 ls hL hs hS1
/-- a static method is called -/
theorem r_callS (hm : OKm m) (hm' : OKm m') (as rest : List Value) (hl : lk (mT m) pc = some (.invokestatic idx, n, v0, t)) (hst : st = as.reverse ++ rest) (hok : lk (mG m) idx = some (mY m')) (hki : OKk m') (hkd : mK m' = 0) (hnp : as.length = mP m') (hnoi : ¬ (mY m').name = "<init>") (hd : d' < d) (hkk : k + mc' ≤ mc ∧ u + ms' ≤ ms) (hrs : (rest.map fun v => v.category).sum ≤ 8)
    (hC : Ct γ m' d' mc' ms' as S I J Post') (K : ∀ v S' I' J', Post' v S' I' J' → Rj γ m d mc ms Post (pc + 3, L, v.toList ++ rest, S', I', J', k + mc', u + ms')) : Rj γ m d mc ms Post (pc, L, st, S, I, J, k, u) := by
  obtain ⟨hdg, hn0⟩ := hm.ins hl
  have hlen := len_of (k := 2) hn0 rfl
  subst hlen
  subst hst
  intro p e s mid args below meth c hCx H locs ls hL hSim hS
  obtain ⟨hx, hb, hml, hown, hts, hrr, hlk, hnm, hKn, hE, hBs⟩ := id hCx
  obtain ⟨k1, k2, k3, -, -⟩ := kin_of hki
  have o2 := k3 hkd
  rw [← hnp] at k1
  have o1 : Jvm.Cond.methodLink (mO m) idx (mY m') ∈ gw_tbl := by
    rcases cal_of (hm.1.2.2.2.2.2 _ (lk_mem hok)) with h | ⟨q, hq, q1, q2, q3⟩
    · exact h
    · exfalso
      have h1 := nest_init q hq
      rw [q3] at h1
      exact hnoi h1
  have hpre : PreS s H (PC γ as S I J) (as.map (rv γ)) := ⟨PC_blind, fun U hU hW => ⟨rfl, va_K.moved hW.alike hKn, hE.go hS hU hW, by rw [hU]; exact Nat.le_trans hBs hS.1, by rw [hU]; exact hSim⟩⟩
  refine am_go (γ := γ) (Post := Post') (mc := mc') (ms := ms') (rest := rest.map (rv γ)) (a := (as.map (rv γ)).toArray) (va_runS (As := as.map (rv γ)) ⟨hx, hb, hml, hown, hts⟩ hC ⟨callB_of as.length hts (goodM hm' (by rw [hkd]; decide)) rfl rfl rfl (hts _ k2) (hts _ o1) k1 (room_of hm' hd), hts _ o2⟩ hpre rfl (by rw [List.length_map]) hL.1 stk_map0 (lv_room (by rw [rv_sum]; exact hrs)) hdg hkk) hS (fun v S' I' J' H1 locs1 hp hs hS1 => ?_)
  rw [ret_map]
  exact K v S' I' J' hp p e s mid args below meth c hCx H1 locs1 ls hL hs hS1
/-- a constructor is called -/
theorem r_callI (hm : OKm m) (hm' : OKm m') (as rest : List Value) (a : Nat) (hl : lk (mT m) pc = some (.invokespecial idx, n, v0, t)) (hst : st = as.reverse ++ .ref a :: rest) (hok : lk (mG m) idx = some (mY m')) (hki : OKk m') (hkd : mK m' = 2) (hnp : as.length = mP m') (hd : d' < d) (hkk : k + mc' ≤ mc ∧ u + ms' ≤ ms) (hrs : (rest.map fun v => v.category).sum ≤ 8)
    (hC : Ct γ m' d' mc' ms' (.ref a :: as) S I J Post') (K : ∀ v S' I' J', Post' v S' I' J' → Rj γ m d mc ms Post (pc + 3, L, v.toList ++ rest, S', I', J', k + mc', u + ms')) : Rj γ m d mc ms Post (pc, L, st, S, I, J, k, u) := by
  obtain ⟨hdg, hn0⟩ := hm.ins hl
  have hlen := len_of (k := 2) hn0 rfl
  subst hlen
  subst hst
  intro p e s mid args below meth c hCx H locs ls hL hSim hS
  obtain ⟨hx, hb, hml, hown, hts, hrr, hlk, hnm, hKn, hE, hBs⟩ := id hCx
  obtain ⟨k1, k2, -, -, k5⟩ := kin_of hki
  obtain ⟨o2, o5, hret⟩ := k5 hkd
  rw [← hnp] at k1
  have o1 := cal_of (hm.1.2.2.2.2.2 _ (lk_mem hok))
  have hpre : PreS s H (PC γ (.ref a :: as) S I J) (.ref (g_ad γ a) :: as.map (rv γ)) := ⟨PC_blind, fun U hU hW => ⟨rfl, va_K.moved hW.alike hKn, hE.go hS hU hW, by rw [hU]; exact Nat.le_trans hBs hS.1, by rw [hU]; exact hSim⟩⟩
  have hws : wsM m' = Jvm.Cond.code (mY m') (mB m') (mL m') none :: gw_tbl := by unfold wsM; rw [hret]
  have fin : ∀ (v : Option Value) (S' : List Sh) (I' : AI) (J' : AJ) (H1 : Heap) (locs1 : List Loc), Post' v S' I' J' → Sim γ S' I' J' H1 → va_S (g_A γ) s.heap H1 locs1 → W p (g_l γ) e (rmo d mc ms) s mid args below meth c H1 locs1 (k + mc') (u + ms') (MQ below (QC γ Post) args s mc ms (g_A γ)) (F0 mid (pc + 3) ls ((v.map (rv γ)).toList ++ rest.map (rv γ))) := by
    intro v S' I' J' H1 locs1 hp hs hS1
    rw [ret_map]
    exact K v S' I' J' hp p e s mid args below meth c hCx H1 locs1 ls hL hs hS1
  rcases o1 with o1 | o1
  · exact am_go (γ := γ) (Post := Post') (mc := mc') (ms := ms') (rest := rest.map (rv γ)) (a := (Value.ref (g_ad γ a) :: as.map (rv γ)).toArray) (va_runI (As := as.map (rv γ)) ⟨hx, hb, hml, hown, hts⟩ hC (cwI as.length hts (goodM hm' (by rw [hkd]; decide)) hws rfl rfl (hts _ k2) (hts _ o1) (hts _ o2) o5 k1 (room_of hm' hd)) hpre rfl (by rw [List.length_map]) hL.1 stk_map (lv_room (by rw [rv_sum]; exact hrs)) hdg hkk) hS fin
  · obtain ⟨q, hq, e1, e2, e3⟩ := o1
    have hnest : va_Nw (.methodLinkNest (mO m) idx (mY m') q.2.2.2) s := by have e1 : q.1 = mO m := e1; rw [← e1, ← e2, ← e3]; exact hE.2.2.2.2.2.2.2.1 q hq
    exact am_go (γ := γ) (Post := Post') (mc := mc') (ms := ms') (rest := rest.map (rv γ)) (a := (Value.ref (g_ad γ a) :: as.map (rv γ)).toArray) (va_runIN (As := as.map (rv γ)) ⟨hx, hb, hml, hown, hts⟩ hC ⟨va_cnB as.length hts (goodM hm' (by rw [hkd]; decide)) hws rfl rfl hnest (hts _ k2) k1 (room_of hm' hd), o5, hts _ o2⟩ hpre rfl (by rw [List.length_map]) hL.1 stk_map (lv_room (by rw [rv_sum]; exact hrs)) hdg hkk) hS fin
end CALLS
/-! a method's beginning -/
def entL : List Value → List (Option Value)
  | [] => []
  | .long x :: vs => some (.long x) :: none :: entL vs
  | .double x :: vs => some (.double x) :: none :: entL vs
  | v :: vs => some v :: entL vs
theorem entL_mem (γ : GE) : ∀ (as : List Value) (b i : Nat) (v : Value), (entL as)[i]? = some (some v) → (b + i, rv γ v) ∈ lv_args b (as.map (rv γ))
  | [], b, i, v, h => by simp [entL] at h
  | x :: vs, b, i, v, h => by
    have key2 : x.category = 2 → (some x :: none :: entL vs)[i]? = some (some v) → (b + i, rv γ v) ∈ lv_args b ((x :: vs).map (rv γ)) := by
      intro hc h
      match i, h with
      | 0, h =>
        rw [List.getElem?_cons_zero] at h
        cases h
        exact List.mem_cons_self
      | 1, h => simp at h
      | i + 2, h =>
        rw [List.getElem?_cons_succ, List.getElem?_cons_succ] at h
        have := entL_mem γ vs (b + 2) i v h
        refine List.mem_cons_of_mem _ ?_
        rw [rv_cat, if_pos hc, show b + (i + 2) = b + 2 + i by omega]
        exact this
    have key1 : ¬ x.category = 2 → (some x :: entL vs)[i]? = some (some v) → (b + i, rv γ v) ∈ lv_args b ((x :: vs).map (rv γ)) := by
      intro hc h
      match i, h with
      | 0, h =>
        rw [List.getElem?_cons_zero] at h
        cases h
        exact List.mem_cons_self
      | i + 1, h =>
        rw [List.getElem?_cons_succ] at h
        have := entL_mem γ vs (b + 1) i v h
        refine List.mem_cons_of_mem _ ?_
        rw [rv_cat, if_neg hc, show b + (i + 1) = b + 1 + i by omega]
        exact this
    cases x with
    | long y => exact key2 rfl h
    | double y => exact key2 rfl h
    | int y => exact key1 (by simp [Value.category]) h
    | float y => exact key1 (by simp [Value.category]) h
    | null => exact key1 (by decide) h
    | ref y => exact key1 (by simp [Value.category]) h
    | retAddr y => exact key1 (by simp [Value.category]) h
theorem entL_len (γ : GE) : ∀ (as : List Value), (entL as).length = (lg_sl (as.map (rv γ))).length
  | [] => rfl
  | x :: vs => by
    have ih := entL_len γ vs
    unfold lg_sl at ih ⊢
    rw [List.map_cons, List.flatMap_cons, List.length_append]
    cases x <;> simp [entL, ih, rv, Value.category] <;> omega
def L0 (as : List Value) (n : Nat) : List (Option Value) := entL as ++ List.replicate (n - (entL as).length) none
/-- a contract out of a walk from the beginning -/
theorem ct_of {γ : GE} {m : MI} {d mc ms : Nat} {as : List Value} {S : List Sh} {I : AI} {J : AJ} {Post : PT} (hm : OKm m) {L : List (Option Value)} (hle : (entL as).length ≤ mL m) (hL : L0 as (mL m) = L) (K : Rj γ m d mc ms Post (0, L, [], S, I, J, 0, 0)) : Ct γ m d mc ms as S I J Post := by
  refine Met.ofW (cc := mB m) (maxL := mL m) (ret := mR m) hm.2.2.2.2.2.1 rfl ?_
  intro p e s mid args below meth c s₁ B hml hv
  obtain ⟨rfl, hK, hE, hB, hSim⟩ := hv
  have hts := atoms_spec (ws := wsM m) B.pre
  have hown : s.vm.findClass (mY m).cls = some mid.cls := findClass_of_methodNamed B.named
  rw [hm.2.2.2.2.2.2.1] at hown
  have hl := lv_entry (as.map (rv γ)) (n := mL m) (by rw [← entL_len]; exact hle)
  rw [lg_entry_eq]
  generalize (lg_sl (as.map (rv γ)) ++ List.replicate (mL m - (lg_sl (as.map (rv γ))).length) Slot.unset).toArray = ls at hl ⊢
  have hLH : LH γ ls (mL m) L := by
    refine ⟨hl.1, by rw [← hL]; unfold L0; rw [List.length_append, List.length_replicate]; omega, hl.2.1, fun i v hv => ?_⟩
    rw [← hL] at hv
    unfold L0 at hv
    by_cases hi : i < (entL as).length
    · rw [List.getElem?_append_left hi] at hv
      have := entL_mem γ as 0 i v hv
      rw [Nat.zero_add] at this
      exact hl.2.2 _ this
    · rw [List.getElem?_append_right (by omega), List.getElem?_replicate] at hv
      split at hv
      · cases hv
      · cases hv
  exact K p e s mid _ below meth c ⟨B.exec, B.bytes, hml, hown, fun w hw => hts w (List.mem_cons_of_mem _ hw), B.returns, B.notSynchronized, (name_of_methodNamed B.named B.method).1, hK, hE, hB⟩ s.heap [] ls hLH hSim va_S.rf
