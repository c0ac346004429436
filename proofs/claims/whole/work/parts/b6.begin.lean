/-! THE CLAIM OUT OF ONE WALK OF THE LAW'S BODY. Your part is whole_start (and what it stands on); all else here is the same for every law, but numbers. -/
def R_law : String := "StormOfficeLaw"
def lw_P (b : Addr) (xs : List Int32) (args : Array Value) (s : State) : Prop := args = #[.ref b] ∧ s.IntsAt b xs ∧ xs.length ≤ 3072 ∧ (Jvm.Cond.and given_1 narrow_1).before args s = true
def lw_Q (_ : Array Value) (s : State) (o : Outcome) (t : State) : Prop := o = .returned (some (.int 1)) ∧ Framed s o t [] 600000 7302250
def lw_Z (below : List Frame) (a : Array Value) (s : State) : State → Prop := fun t => ∃ o, t.status = .running ∧ Ended t below o ∧ lw_Q a s o t
/-- the law's own end, with 1 on the stack, nothing written that was there before, its room as the claim has it -/
theorem lw_ret {p : Program} {l : Launch} {e : Env} {s : State} {m : MethodId} {below : List Frame} {meth : Method} {c : Code} {b : Nat} (hx : p.tables.exec = Jvm.exec) (hb : c.code = code) (hr : meth.sig.returnType = ret) (hlocks : meth.locks = false) {pc : Nat} {H : Heap} {ls : Array Slot} (hdg : decode code pc = .ok (.ireturn, 1)) : W p l e room_1 s m #[Value.ref b] below meth c H [] 600000 7302250 (lw_Z below #[Value.ref b] s) (F0 m pc ls [.int 1]) := by
  intro T hT X
  obtain ⟨fs, hret, hrun, hended, hW, hframe⟩ := X.leave (v := some (.int 1)) (hlocks := hlocks) (fun h => by rw [hr] at h; cases h)
  have hmeth' : T.vm.method? m = some meth := X.method'
  refine ⟨T.setFrames fs, ?_, .returned (some (.int 1)), hrun, hended, rfl, ⟨_, rfl⟩, hW, hframe⟩
  jvm_step X.here [X.here.top, hx, hb, hdg, hmeth', hr, ret, narrow_b1]
  (try refine ⟨rfl, ?_⟩); (try refine ⟨rfl, ?_⟩)
  first | (intro acts; rw [hret _ acts rfl rfl rfl]) | rw [hret _ _ rfl rfl rfl]
  exact Steps.refl _
/-- what holds at the law's entry: the machine, the code, the tables' words (any of lw_tbl by 'hts w (by decide +kernel)'), the script of L ints xs at the cell b, what the Statement gives of the start (any of its parts by flat_of_before) -/
def lw_At (p : Program) (s : State) (m : MethodId) (meth : Method) (c : Code) (b L : Nat) (xs : Nat → Int32) : Prop :=
  p.tables.exec = Jvm.exec ∧ c.code = code ∧ meth.sig.returnType = ret ∧ c.maxLocals = 4 ∧ s.vm.findClass R_law = some m.cls ∧ (∀ w ∈ lw_tbl, w.before #[Value.ref b] s = true) ∧ va_X b L xs s s.heap ∧ b < s.heap.size ∧ meth.locks = false ∧ (Jvm.Cond.and given_1 narrow_1).before #[Value.ref b] s = true
theorem gw_of {w : Jvm.Cond} (h : w ∈ gw_tbl) : w ∈ lw_tbl := (List.mem_filter.mp h).1
theorem room_le {pl : Platform} {s : State} (h : s.hasRoom pl room_1 = true) : s.hasRoom pl (rmo 24 143 112353) = true := by
  unfold State.hasRoom at h ⊢
  simp only [Bool.and_eq_true, decide_eq_true_eq] at h ⊢
  obtain ⟨⟨⟨⟨h1, h2, h3, h4, h5, h6⟩, h7⟩, h8⟩, h9⟩ := h
  simp only [room_1] at h1 h2 h3 h4 h5 h7 h8
  simp only [rmo]
  exact ⟨⟨⟨⟨by omega, by omega, by omega, by omega, by omega, h6⟩, by omega⟩, by omega⟩, h9⟩
theorem arT {s : State} {ty : FieldType} {cA comp : ClassId} {kA : Class} (h2 : s.vm.classes[cA]? = some kA) (h3 : kA.kind = .array comp ty) : ArrOfT s cA ty := fun n z => ⟨fun k h => (by cases h), kA, h2, comp, h3⟩
def gCf (c0 c1 c2 c3 c4 : ClassId) : FieldType → ClassId
  | .int => c0
  | .long => c1
  | .boolean => c2
  | .object C => if C = RX0 then c3 else c4
  | _ => c0
def gEx (b fm : Nat) (adK adV : Nat → Nat) : Nat → Nat
  | 0 => b
  | 1 => adK 0
  | 2 => adV 0
  | 3 => adK 1
  | 4 => adV 1
  | _ => fm
def tmS (i : Nat) : Term := if i = 0 then .string RX5 128 else .string RX5 120
set_option maxRecDepth 100000 in
theorem tx_words : ∀ i, i < 2 → (Cond.exactly (tmS i) "java/lang/String") ∈ flatC (Jvm.Cond.and given_1 narrow_1) ∧ (Cond.eq (.field (tmS i) "java/lang/String" "coder" "B") (.int 0)) ∈ flatC (Jvm.Cond.and given_1 narrow_1) ∧ (Cond.arrayOf (.field (tmS i) "java/lang/String" "value" "[B") .byte) ∈ flatC (Jvm.Cond.and given_1 narrow_1) ∧ (Cond.eq (.length (.field (tmS i) "java/lang/String" "value" "[B")) (.int (Int32.ofNat (txL.getD i 0)))) ∈ flatC (Jvm.Cond.and given_1 narrow_1) ∧ ∀ j, j < txL.getD i 0 → (Cond.eq (.elem (.field (tmS i) "java/lang/String" "value" "[B") (.int (Int32.ofNat j))) (.int ((txB.getD i []).getD j 0))) ∈ flatC (Jvm.Cond.and given_1 narrow_1) := by decide +kernel
theorem tx_ne : (Cond.not (Cond.eq (tmS 0) (tmS 1))) ∈ flatC (Jvm.Cond.and given_1 narrow_1) ∨ (Cond.not (Cond.eq (tmS 1) (tmS 0))) ∈ flatC (Jvm.Cond.and given_1 narrow_1) := by decide +kernel
theorem st_words : (Cond.eq (.static "java/lang/String" "COMPACT_STRINGS" "Z") (.int 1)) ∈ flatC (Jvm.Cond.and given_1 narrow_1) ∧ (Cond.isRef (.static "jdk/internal/util/Preconditions" "SIOOBE_FORMATTER" "Ljava/util/function/BiFunction;")) ∈ flatC (Jvm.Cond.and given_1 narrow_1) := by decide +kernel
theorem tb_words : (Cond.laysStatic "java/lang/String" "COMPACT_STRINGS" "Z") ∈ lw_tbl ∧ (Cond.initialized "java/lang/String") ∈ lw_tbl ∧ (Cond.laysStatic "jdk/internal/util/Preconditions" "SIOOBE_FORMATTER" "Ljava/util/function/BiFunction;") ∈ lw_tbl ∧ (Cond.initialized "jdk/internal/util/Preconditions") ∈ lw_tbl ∧ (Cond.stringRef RX5 128 tx0) ∈ lw_tbl ∧ (Cond.stringRef RX5 120 tx1) ∈ lw_tbl ∧ (Cond.arrayOver (.object RX0)) ∈ lw_tbl ∧ (Cond.arrayOver (.object RX4)) ∈ lw_tbl := by decide +kernel
theorem ne_words : ∀ q ∈ nestL, (Jvm.Cond.methodLinkNest q.1 q.2.1 q.2.2.1 q.2.2.2) ∈ lw_tbl := by decide +kernel
theorem whole_start {p : Program} {e : Env} {s : State} {m : MethodId} {below : List Frame} {meth : Method} {c : Code} (l : Launch) {b L : Nat} {xs : Nat → Int32} (hL : L ≤ 3072) (C0 : lw_At p s m meth c b L xs) : W p l e room_1 s m #[Value.ref b] below meth c s.heap [] 0 0 (lw_Z below #[Value.ref b] s) (entryFrame m ([Value.ref b] : List Value).toArray 4) := by
  obtain ⟨hx, hb, hr, hml, hown, hts, hX, hbl, hlocks, hgv⟩ := id C0
  have hfl := flat_of_before _ hgv
  have hA : ∀ a : Nat, a < s.heap.size → ¬ (fun q : Nat => s.heap.size ≤ q) a := fun a h => Nat.not_le.mpr h
  -- the classes
  have hK0 : ∀ ci : Nat, ∃ q : ClassId × (Nat → Nat), ∀ r : vw_C, vwCl[ci]? = some r → u_Kn s r.1 r.2.1 r.2.2 q.1 q.2 := fun ci => by
    cases hc : vwCl[ci]? with
    | none => exact ⟨(0, fun _ => 0), fun r h => by cases h⟩
    | some r =>
      obtain ⟨k1, -, -, k4, -⟩ := clsOK ci r hc
      obtain ⟨cC, iS, h⟩ := u_known (C := r.1) (T := r.2.1) (N := r.2.2) (n := r.2.2) hts (fun w hw => gw_of (k1 w hw)) (hts _ (gw_of k4))
      exact ⟨(cC, iS), fun r' h' => by cases h'; exact h⟩
  obtain ⟨dq, hdq⟩ := Classical.skolem.mp hK0
  obtain ⟨cI, kI0, cmI, i1, i2, i3⟩ := Cond.arrayClass_spec (hts _ (gw_of (inT_in acl_i)))
  obtain ⟨cL, kL0, cmL, j1, j2, j3⟩ := Cond.arrayClass_spec (hts _ (gw_of (inT_in acl_l)))
  obtain ⟨cZ, kZ0, cmZ, z1, z2, z3⟩ := Cond.arrayClass_spec (hts _ (gw_of (inT_in acl_z)))
  obtain ⟨w1, w2, w3, w4, w5, w6, w7, w8⟩ := tb_words
  obtain ⟨cm0, c0, k0, f1, -, f3, f4, f5⟩ := Cond.arrayOver_spec (hts _ w7)
  obtain ⟨cm4, c4, k4, g1, -, g3, g4, g5⟩ := Cond.arrayOver_spec (hts _ w8)
  -- the texts
  obtain ⟨adK, adV, hSk, hev⟩ := vk_Sof (args := #[Value.ref b]) (s := s) (N := 2) (tm := tmS) (len := txL) (byt := txB) (A := fun q : Nat => s.heap.size ≤ q) (by decide) (fun i hi => hfl _ (tx_words i hi).1) (fun i hi => hfl _ (tx_words i hi).2.1) (fun i hi => hfl _ (tx_words i hi).2.2.1) (fun i hi => hfl _ (tx_words i hi).2.2.2.1) (fun i hi j hj => hfl _ ((tx_words i hi).2.2.2.2 j hj)) (fun i j hi hj hne => by
    rcases (by omega : (i = 0 ∧ j = 1) ∨ (i = 1 ∧ j = 0)) with ⟨rfl, rfl⟩ | ⟨rfl, rfl⟩
    · exact tx_ne.elim (fun h => Or.inl (hfl _ h)) (fun h => Or.inr (hfl _ h))
    · exact tx_ne.elim (fun h => Or.inr (hfl _ h)) (fun h => Or.inl (hfl _ h))) hA
  -- the statics
  have hcs : va_Z "java/lang/String" "COMPACT_STRINGS" "Z" (.int 1) (fun q : Nat => s.heap.size ≤ q) s s.heap := va_Zof (hts _ w1) (hts _ w2) (va_eqt (hfl _ st_words.1)) hA
  have hfm := va_Zqof (hts _ w3) (hts _ w4) (hfl _ st_words.2) hA
  obtain ⟨fm, hfm2⟩ : ∃ fm : Nat, va_Z "jdk/internal/util/Preconditions" "SIOOBE_FORMATTER" "Ljava/util/function/BiFunction;" .null (fun q : Nat => s.heap.size ≤ q) s s.heap ∨ va_Z "jdk/internal/util/Preconditions" "SIOOBE_FORMATTER" "Ljava/util/function/BiFunction;" (.ref fm) (fun q : Nat => s.heap.size ≤ q) s s.heap := by
    rcases hfm with h | ⟨t, h⟩
    · exact ⟨0, Or.inl h⟩
    · exact ⟨t, Or.inr h⟩
  obtain ⟨γ, hγ⟩ : ∃ γ : GE, γ = (l, (fun k => (dq k).1), (fun k => (dq k).2), gCf cI cL cZ c0 c4, (fun k => s.heap.size + k), gEx b fm adK adV, s.heap.size, L, xs) := ⟨_, rfl⟩
  have e1 : g_l γ = l := by rw [hγ]
  have hKn : Kn γ s := by
    rw [hγ]
    refine ⟨fun k q hq => hdq k q hq, fun k q hk => ?_⟩
    match k, hk with
    | 0, hk => cases hk; exact ⟨arT i2 i3, i1⟩
    | 1, hk => cases hk; exact ⟨arT j2 j3, j1⟩
    | 2, hk => cases hk; exact ⟨arT z2 z3, z1⟩
    | 3, hk => cases hk; exact ⟨arT f3 f4, k0, cm0, f3, f4, f1, f5⟩
    | 4, hk => cases hk; exact ⟨arT g3 g4, k4, cm4, g3, g4, g1, g5⟩
    | k + 5, hk => cases hk
  have hExt : Ext γ s s.heap := by
    rw [hγ]
    refine ⟨hX, hbl, hA b hbl, ⟨fun i hi => ?_, fun i j hi hj he => ?_⟩, ⟨hcs, hfm2⟩, vk_R.of (hts _ w5) (hev 0 (by decide)), vk_R.of (hts _ w6) (hev 1 (by decide)), fun q hq => ?_, ?_, ?_⟩
    · rcases (by omega : i = 0 ∨ i = 1) with rfl | rfl
      · exact hSk.1 0 (by decide)
      · exact hSk.1 1 (by decide)
    · rcases (by omega : (i = 0 ∧ j = 0) ∨ (i = 0 ∧ j = 1) ∨ (i = 1 ∧ j = 0) ∨ (i = 1 ∧ j = 1)) with ⟨rfl, rfl⟩ | ⟨rfl, rfl⟩ | ⟨rfl, rfl⟩ | ⟨rfl, rfl⟩
      · rfl
      · exact hSk.2 0 1 (by decide) (by decide) he
      · exact hSk.2 1 0 (by decide) (by decide) he
      · rfl
    · exact va_tabs rfl rfl (hts _ (ne_words q hq))
    · exact va_AO.of (hts _ w7)
    · exact va_AO.of (hts _ w8)
  have hSim : Sim γ [] zI zJ s.heap := by
    rw [hγ]
    exact ⟨fun k q h => by simp [wld] at h, ⟨fun i j p q h => by simp [wld] at h, fun k q h => by simp [wld] at h⟩, fun k => by simp [g_ad]⟩
  have hCx : Cx γ (mL_law meth.name) p s m #[Value.ref b] meth c := ⟨hx, hb, hml, hown, fun w hw => hts w (gw_of hw), hr, hlocks, rfl, hKn, hExt, by rw [hγ]; exact Nat.le_refl _⟩
  have hl := lv_entry ([.ref b]) (n := 4) (Nat.le_of_ble_eq_true rfl)
  rw [lg_entry_eq]
  generalize (lg_sl ([.ref b]) ++ List.replicate (4 - (lg_sl ([.ref b])).length) Slot.unset).toArray = ls at hl ⊢
  have hl : lv_has ls 4 [(0, .ref b)] := hl
  have hLH : LH γ ls 4 [some (.retAddr 0), none, none, none] := by
    refine ⟨hl.1, rfl, hl.2.1, fun i v hv => ?_⟩
    match i, hv with
    | 0, hv => cases hv; rw [hγ]; exact hl.2.2 (0, .ref b) List.mem_cons_self
    | 1, hv => cases hv
    | 2, hv => cases hv
    | 3, hv => cases hv
    | i + 4, hv => cases hv
  have hW := law_all γ meth.name (by rw [hγ]; exact hL) p e s m #[Value.ref b] below meth c hCx s.heap [] ls hLH hSim va_S.rf
  rw [e1] at hW
  intro T hT X
  obtain ⟨t, h1, o, h2, h3, ⟨⟨v, S1, I1, J1, h4, h5, -⟩, -⟩, Lx, ⟨h6, h7, h8⟩, h9⟩ := hW T hT { X with room := room_le X.room }
  refine ⟨t, h1, o, h2, h3, ?_, h6, h7, ?_⟩
  · rw [h4, ← (show some (Value.int 1) = v from h5)]; rfl
  · exact h8.weaken (fun y hy hlt => absurd hlt (Nat.not_lt.mpr (by have := h9 y hy; rw [hγ] at this; exact this))) (by decide) (by decide)
