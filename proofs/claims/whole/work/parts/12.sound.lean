/-! ===== what the tables give; the judgement Rj; the step function is sound ===== -/
def rmo (d mc ms : Nat) : Room := { frames := d + 1, cells := mc, slots := ms, locals := 64 * (d + 1) }
abbrev PT : Type := Option Value → List Sh → AI → AJ → Prop
def PC (γ : GE) (as : List Value) (S : List Sh) (I : AI) (J : AJ) : Array Value → State → Prop := va_Pc (as.map (rv γ)) (fun U => Kn γ U ∧ Ext γ U U.heap ∧ g_B γ ≤ U.heap.size ∧ Sim γ S I J U.heap)
def QC (γ : GE) (Post : PT) : Array Value → State → Outcome → State → Prop := fun _ st oc t => (∃ (v : Option Value) (S : List Sh) (I : AI) (J : AJ), oc = .returned (v.map (rv γ)) ∧ Post v S I J ∧ Sim γ S I J t.heap) ∧ va_F (g_A γ) st t
def gw_tbl : List Jvm.Cond := lw_tbl.filter goodWord
def wsM (m : MI) : List Jvm.Cond := Jvm.Cond.code (mY m) (mB m) (mL m) (mR m) :: gw_tbl
theorem gw_in {w : Jvm.Cond} (h : w ∈ lw_tbl) (hg : goodWord w = true) : w ∈ gw_tbl := List.mem_filter.mpr ⟨h, hg⟩
/-- a method's contract -/
def Ct (γ : GE) (m : MI) (d mc ms : Nat) (as : List Value) (S : List Sh) (I : AI) (J : AJ) (Post : PT) : Prop := Met (g_l γ) (mY m) (wsM m) (rmo d mc ms) (PC γ as S I J) (QC γ Post) mc ms (g_A γ)
def Cx (γ : GE) (m : MI) (p : Program) (s : State) (mid : MethodId) (args : Array Value) (meth : Method) (c : Code) : Prop :=
  p.tables.exec = Jvm.exec ∧ c.code = mB m ∧ c.maxLocals = mL m ∧ s.vm.findClass (mO m) = some mid.cls ∧ (∀ w ∈ gw_tbl, w.before args s = true) ∧ meth.sig.returnType = mR m ∧ meth.locks = false ∧ meth.name = (mY m).name ∧ Kn γ s ∧ Ext γ s s.heap ∧ g_B γ ≤ s.heap.size
def Rj (γ : GE) (m : MI) (d mc ms : Nat) (Post : PT) (σ : AS) : Prop :=
  ∀ (p : Program) (e : Env) (s : State) (mid : MethodId) (args : Array Value) (below : List Frame) (meth : Method) (c : Code), Cx γ m p s mid args meth c →
  ∀ (H : Heap) (locs : List Loc) (ls : Array Slot), LH γ ls (mL m) σ.2.1 → Sim γ σ.2.2.2.1 σ.2.2.2.2.1 σ.2.2.2.2.2.1 H → va_S (g_A γ) s.heap H locs →
  W p (g_l γ) e (rmo d mc ms) s mid args below meth c H locs σ.2.2.2.2.2.2.1 σ.2.2.2.2.2.2.2 (MQ below (QC γ Post) args s mc ms (g_A γ)) (F0 mid σ.1 ls (σ.2.2.1.map (rv γ)))
def ilen : Instr → Nat
  | .iload _ => 2
  | .lload _ => 2
  | .aload _ => 2
  | .istore _ => 2
  | .lstore _ => 2
  | .astore _ => 2
  | .bipush _ => 2
  | .ldc _ => 2
  | .newarray _ => 2
  | .sipush _ => 3
  | .getfield _ => 3
  | .putfield _ => 3
  | .getstatic _ => 3
  | .invokevirtual _ => 3
  | .invokestatic _ => 3
  | .invokespecial _ => 3
  | .goto _ => 3
  | .new _ => 3
  | .ldc_w _ => 3
  | .ldc2_w _ => 3
  | .anewarray _ => 3
  | .iinc _ _ => 3
  | .if_icmp _ _ => 3
  | .ifCond _ _ => 3
  | .tableswitch _ _ _ _ => 0
  | .lookupswitch _ _ => 0
  | _ => 1
def numOK (x : IE) : Bool := (Nat.beq (ilen x.2.1) x.2.2.1 || Nat.beq (ilen x.2.1) 0) && match x.2.1 with
  | .iconst z => decide (Int32.ofInt z = x.2.2.2.1)
  | .bipush z => decide ((Int8.ofInt z).toInt32 = x.2.2.2.1)
  | .sipush z => decide ((Int16.ofInt z).toInt32 = x.2.2.2.1)
  | .iinc _ z => decide (Int32.ofInt z = x.2.2.2.1)
  | .goto z => decide ((x.1 : Int) + z = (x.2.2.2.2 : Int))
  | .if_icmp _ z => decide ((x.1 : Int) + z = (x.2.2.2.2 : Int))
  | .ifCond _ z => decide ((x.1 : Int) + z = (x.2.2.2.2 : Int))
  | _ => true
def sgT (k : Nat) : List Jvm.Cond := match k with
  | 0 => k2_sels lw_privs
  | 1 => tables_1_1
  | 2 => tables_1_2
  | 3 => tables_1_3
  | 4 => tables_1_4
  | 5 => tables_1_5
  | 6 => tables_1_6
  | 7 => tables_1_7
  | _ => tables_1_8
theorem sgT_in {k : Nat} {w : Jvm.Cond} (h : w ∈ sgT k) : w ∈ lw_tbl := by
  unfold sgT at h
  unfold lw_tbl tables_1
  simp only [List.mem_append]
  split at h <;> simp only [h, true_or, or_true]
def inT (i : Nat) (w : Jvm.Cond) : Bool := decide ((sgT (i / 1000))[i % 1000]? = some w) && goodWord w
theorem inT_in {i : Nat} {w : Jvm.Cond} (h : inT i w = true) : w ∈ gw_tbl := by
  unfold inT at h
  rw [Bool.and_eq_true] at h
  exact gw_in (sgT_in (List.mem_of_getElem? (of_decide_eq_true h.1))) h.2
theorem zip_all {α : Type} {f : α → Nat → Bool} : ∀ {l : List α} {ps : List Nat}, l.length = ps.length → (∀ q ∈ l.zip ps, f q.1 q.2 = true) → ∀ x ∈ l, ∃ p, f x p = true
  | [], _, _, _, x, hx => by cases hx
  | a :: l, [], h, _, _, _ => by cases h
  | a :: l, p :: ps, h, hq, x, hx => by
    rcases List.mem_cons.mp hx with rfl | hx
    · exact ⟨p, hq (x, p) List.mem_cons_self⟩
    · exact zip_all (Nat.succ.inj h) (fun q hq' => hq q (List.mem_cons_of_mem _ hq')) x hx
def fldOK (own : String) (x : Nat × Nat × Nat × Bool × Nat) (p : Nat) : Bool := match vwCl[x.2.1]? with
  | some r => decide (x.2.2.1 < r.2.2) && inT p (Jvm.Cond.fieldLink own x.1 (r.2.1 x.2.2.1).1 (r.2.1 x.2.2.1).2.1 (r.2.1 x.2.2.1).2.2.1) && decide ((r.2.1 x.2.2.1).2.2.2 = x.2.2.2.1) && (!x.2.2.2.1 || Nat.beq x.2.2.2.2 9 || decide ((r.2.1 x.2.2.1).1 = own)) && match x.2.2.2.2 with
    | 0 => decide (parseFieldDescriptor (r.2.1 x.2.2.1).2.2.1 = some .int)
    | 1 => decide (parseFieldDescriptor (r.2.1 x.2.2.1).2.2.1 = some .boolean)
    | 2 => decide (parseFieldDescriptor (r.2.1 x.2.2.1).2.2.1 = some .long)
    | 3 => match parseFieldDescriptor (r.2.1 x.2.2.1).2.2.1 with
      | some (.object _) => true
      | some (.array _) => true
      | _ => false
    | 9 => true
    | _ => false
  | none => false
def cstOK (own : String) (x : Nat × Value) (p : Nat) : Bool := match x.2 with
  | .int v => inT p (Jvm.Cond.constant own x.1 v)
  | .long v => inT p (Jvm.Cond.constantLong own x.1 v)
  | .retAddr z => decide (own = RX5) && ((Nat.beq z 1 && Nat.beq x.1 128) || (Nat.beq z 3 && Nat.beq x.1 120))
  | _ => false
def newOK (own : String) (x : Nat × Nat) (p : Nat) : Bool := match vwCl[x.2]? with
  | some r => inT p (Jvm.Cond.classLink own x.1 r.1)
  | none => false
def arrOK (own : String) (x : Nat × Nat) (p : Nat) : Bool := match vwCl[x.2]? with
  | some r => inT p (Jvm.Cond.classLink own x.1 r.1) && (Nat.beq x.2 0 || Nat.beq x.2 4)
  | none => false
def calOK (own : String) (x : Nat × MethodName) (p : Nat) : Bool := inT p (.methodLink own x.1 x.2) || nestL.any (fun q => decide (q.1 = own) && Nat.beq q.2.1 x.1 && decide (q.2.2.1 = x.2))
def OKc (c : CI) : Prop := (∀ x ∈ c.2.1, ∃ p, fldOK c.1 x p = true) ∧ (∀ x ∈ c.2.2.1, ∃ p, cstOK c.1 x p = true) ∧ (∀ x ∈ c.2.2.2.1, ∃ p, newOK c.1 x p = true) ∧ (∀ x ∈ c.2.2.2.2.1, ∃ p, arrOK c.1 x p = true) ∧ (∀ x ∈ c.2.2.2.2.2.1, ∃ p, inT p (Jvm.Cond.methodLink c.1 x objectInit) = true) ∧ ∀ x ∈ c.2.2.2.2.2.2, ∃ p, calOK c.1 x p = true
/-- the words on a method that a caller needs, by their places: initialized, static or instanceMethod, selects -/
def kinOK (m : MI) (p1 p2 p3 : Nat) : Bool := decide ((mY m).cls ≠ "java/lang/invoke/MethodHandle") && decide ((mY m).cls ≠ "java/lang/invoke/VarHandle") && decide ((parseMethodDescriptor (mY m).desc).map (fun q => q.parameters.length) = some (mP m)) && inT p1 (.initialized (mY m).cls) && match mK m with
  | 0 => inT p2 (.static (mY m))
  | 1 => inT p2 (.instanceMethod (mY m)) && inT p3 (.selects (mY m).cls (mY m) (mY m))
  | _ => inT p2 (.instanceMethod (mY m)) && decide ((mY m).name = "<init>") && decide (mR m = none)
def OKm (m : MI) : Prop := OKc m.1 ∧ (mK m = 7 ∨ Jvm.Cond.code (mY m) (mB m) (mL m) (mR m) ∈ gw_tbl) ∧ (∀ x ∈ mT m, decode (mB m) x.1 = .ok (x.2.1, x.2.2.1)) ∧ (∀ x ∈ mT m, numOK x = true) ∧ mL m ≤ 45 ∧ plainName (mY m).cls = true ∧ (mY m).cls = mO m ∧ (mQ m = true → (mY m).name = "<init>")
/-- a method that may be called -/
def OKk (m : MI) : Prop := ∃ p1 p2 p3, kinOK m p1 p2 p3 = true
def tyC (ci : Nat) : Nat → FieldType := match ci with
  | 0 => tyX0
  | 1 => tyX1
  | 2 => tyX2
  | 3 => tyX3
  | 4 => tyX4
  | 5 => tyX5
  | 6 => tyX6
  | 7 => tyX7
  | 8 => tyX8
  | 9 => tyX9
  | 10 => tyX10
  | 11 => tyX11
  | 12 => tyX12
  | _ => fun _ => .int
theorem clsOK : ∀ (ci : Nat) (r : vw_C), vwCl[ci]? = some r → (∀ w ∈ u_ws r.1 r.2.1 r.2.2, w ∈ gw_tbl) ∧ (∀ k, k < r.2.2 → parseFieldDescriptor (r.2.1 k).2.2.1 = some (tyC ci k)) ∧ (∀ a, a < r.2.2 → ∀ b, b < r.2.2 → a ≠ b → (r.2.1 a).2.1 ≠ (r.2.1 b).2.1) ∧ Jvm.Cond.instantiable r.1 r.2.2 ∈ gw_tbl ∧ Jvm.Cond.initialized r.1 ∈ gw_tbl := by
  intro ci r h
  match ci, h with
  | 0, h => cases h; exact ⟨fun w h => by obtain ⟨p, hp⟩ := zip_all (f := fun w p => inT p w) (ps := [1050, 1052]) (by decide +kernel) (by decide +kernel) w h; exact inT_in hp, tyX0_ok, nmX0, inT_in (i := 1039) (by decide +kernel), inT_in (i := 1003) (by decide +kernel)⟩
  | 1, h => cases h; exact ⟨fun w h => by obtain ⟨p, hp⟩ := zip_all (f := fun w p => inT p w) (ps := [1166, 1168, 1170, 1172, 1174, 1176, 1178, 1180, 1182, 1184]) (by decide +kernel) (by decide +kernel) w h; exact inT_in hp, tyX1_ok, nmX1, inT_in (i := 1149) (by decide +kernel), inT_in (i := 1007) (by decide +kernel)⟩
  | 2, h => cases h; exact ⟨fun w h => by obtain ⟨p, hp⟩ := zip_all (f := fun w p => inT p w) (ps := [1076, 1078, 1080, 1082, 1084, 1086]) (by decide +kernel) (by decide +kernel) w h; exact inT_in hp, tyX2_ok, nmX2, inT_in (i := 1032) (by decide +kernel), inT_in (i := 1002) (by decide +kernel)⟩
  | 3, h => cases h; exact ⟨fun w h => by obtain ⟨p, hp⟩ := zip_all (f := fun w p => inT p w) (ps := [2072, 2074, 2076, 2078, 2080, 2082, 2084]) (by decide +kernel) (by decide +kernel) w h; exact inT_in hp, tyX3_ok, nmX3, inT_in (i := 2058) (by decide +kernel), inT_in (i := 1011) (by decide +kernel)⟩
  | 4, h => cases h; exact ⟨fun w h => by obtain ⟨p, hp⟩ := zip_all (f := fun w p => inT p w) (ps := [1105, 1107, 1109, 1111, 1113]) (by decide +kernel) (by decide +kernel) w h; exact inT_in hp, tyX4_ok, nmX4, inT_in (i := 1091) (by decide +kernel), inT_in (i := 1005) (by decide +kernel)⟩
  | 5, h => cases h; exact ⟨fun w h => by obtain ⟨p, hp⟩ := zip_all (f := fun w p => inT p w) (ps := [2140, 2142, 2144, 2146, 2148, 2150, 2152, 2154, 2156, 2158, 2160]) (by decide +kernel) (by decide +kernel) w h; exact inT_in hp, tyX5_ok, nmX5, inT_in (i := 2124) (by decide +kernel), inT_in (i := 1013) (by decide +kernel)⟩
  | 6, h => cases h; exact ⟨fun w h => by obtain ⟨p, hp⟩ := zip_all (f := fun w p => inT p w) (ps := [2104, 2106, 2108, 2110, 2112, 2114, 2116, 2118, 2120]) (by decide +kernel) (by decide +kernel) w h; exact inT_in hp, tyX6_ok, nmX6, inT_in (i := 2090) (by decide +kernel), inT_in (i := 1012) (by decide +kernel)⟩
  | 7, h => cases h; exact ⟨fun w h => by obtain ⟨p, hp⟩ := zip_all (f := fun w p => inT p w) (ps := [1131, 1133, 1135, 1137, 1139, 1141, 1143, 1145]) (by decide +kernel) (by decide +kernel) w h; exact inT_in hp, tyX7_ok, nmX7, inT_in (i := 1117) (by decide +kernel), inT_in (i := 1006) (by decide +kernel)⟩
  | 8, h => cases h; exact ⟨fun w h => by obtain ⟨p, hp⟩ := zip_all (f := fun w p => inT p w) (ps := [2050, 2052, 2054]) (by decide +kernel) (by decide +kernel) w h; exact inT_in hp, tyX8_ok, nmX8, inT_in (i := 2041) (by decide +kernel), inT_in (i := 1010) (by decide +kernel)⟩
  | 9, h => cases h; exact ⟨fun w h => by obtain ⟨p, hp⟩ := zip_all (f := fun w p => inT p w) (ps := [1208, 1210, 1212, 1214, 1216, 1218, 1220, 1222, 1224, 1226, 1228, 1230]) (by decide +kernel) (by decide +kernel) w h; exact inT_in hp, tyX9_ok, nmX9, inT_in (i := 1189) (by decide +kernel), inT_in (i := 1008) (by decide +kernel)⟩
  | 10, h => cases h; exact ⟨fun w h => by obtain ⟨p, hp⟩ := zip_all (f := fun w p => inT p w) (ps := [2015, 2017, 2019, 2021, 2023, 2025, 2027, 2029, 2031, 2033, 2035, 2037]) (by decide +kernel) (by decide +kernel) w h; exact inT_in hp, tyX10_ok, nmX10, inT_in (i := 1235) (by decide +kernel), inT_in (i := 1009) (by decide +kernel)⟩
  | 11, h => cases h; exact ⟨fun w h => by obtain ⟨p, hp⟩ := zip_all (f := fun w p => inT p w) (ps := [2179, 2181, 2183, 2185, 2187, 2189, 2191, 2193, 2195, 2197, 2199, 2201, 2203, 2205, 2207, 2209]) (by decide +kernel) (by decide +kernel) w h; exact inT_in hp, tyX11_ok, nmX11, inT_in (i := 1024) (by decide +kernel), inT_in (i := 1001) (by decide +kernel)⟩
  | 12, h => cases h; exact ⟨fun w h => by obtain ⟨p, hp⟩ := zip_all (f := fun w p => inT p w) (ps := [6141, 6143, 6145, 6147, 6149, 6151, 6153, 6155, 6157, 6159, 6161, 6163, 6165, 6167, 6169, 6171, 6173, 6175, 6177, 6179, 6181, 6183, 6185, 6187, 6189, 6191, 6193, 6195, 6197, 6199, 6201, 6203, 6205, 6207, 6209, 6211, 6213, 6215, 6217, 6219, 6221, 6223, 6225, 6227, 6229, 6231, 6233, 6235, 6237, 6239, 7001, 7003, 7005, 7007, 7009, 7011, 7013, 7015, 7017, 7019, 7021, 7023]) (by decide +kernel) (by decide +kernel) w h; exact inT_in hp, tyX12_ok, nmX12, inT_in (i := 6073) (by decide +kernel), inT_in (i := 1014) (by decide +kernel)⟩
  | k + 13, h => simp [vwCl] at h
theorem oinitOK : inT 1029 (Jvm.Cond.instanceMethod objectInit) = true ∧ inT 1030 (Jvm.Cond.code objectInit ⟨#[0xb1]⟩ 1 none) = true := by decide +kernel
theorem goodM {m : MI} (h : OKm m) (hk : ¬ mK m = 7) : GoodIn gw_tbl (wsM m) := by
  intro w hw
  have hc := h.2.1.resolve_left hk
  rcases List.mem_cons.mp hw with rfl | hw
  · exact ⟨hc, good_of_word (List.mem_filter.mp hc).2⟩
  · exact ⟨hw, good_of_word (List.mem_filter.mp hw).2⟩
theorem OKm.ins {m : MI} (h : OKm m) {pc : Nat} {ins : Instr} {n : Nat} {v : Int32} {t : Nat} (hl : lk (mT m) pc = some (ins, n, v, t)) : decode (mB m) pc = .ok (ins, n) ∧ numOK (pc, ins, n, v, t) = true := ⟨h.2.2.1 (pc, ins, n, v, t) (lk_mem hl), h.2.2.2.1 (pc, ins, n, v, t) (lk_mem hl)⟩
theorem rv_cat (γ : GE) (v : Value) : (rv γ v).category = v.category := by cases v <;> rfl
theorem rv_sum (γ : GE) (st : List Value) : ((st.map (rv γ)).map fun v => v.category).sum = (st.map fun v => v.category).sum := by
  rw [List.map_map]; congr 2; funext v; exact rv_cat γ v
/-! locals -/
def aL (γ : GE) (L : List (Option Value)) : List (Nat × Value) := (List.range L.length).filterMap (fun i => match L[i]? with
  | some (some v) => some (i, rv γ v)
  | _ => none)
theorem mem_aL {γ : GE} {L : List (Option Value)} {q : Nat × Value} : q ∈ aL γ L ↔ ∃ v, L[q.1]? = some (some v) ∧ q.2 = rv γ v := by
  unfold aL
  rw [List.mem_filterMap]
  constructor
  · rintro ⟨i, -, h⟩
    split at h
    · rename_i v hv
      cases h
      exact ⟨v, hv, rfl⟩
    · cases h
  · rintro ⟨v, h1, h2⟩
    refine ⟨q.1, List.mem_range.mpr (List.getElem?_eq_some_iff.mp h1).1, ?_⟩
    rw [h1]
    obtain ⟨a, b⟩ := q
    cases h2
    rfl
theorem LH.has {γ : GE} {ls : Array Slot} {nL : Nat} {L : List (Option Value)} (h : LH γ ls nL L) : lv_has ls nL (aL γ L) := by
  refine ⟨h.1, h.2.2.1, fun q hq => ?_⟩
  obtain ⟨v, h1, h2⟩ := mem_aL.mp hq
  rw [h2]
  exact h.2.2.2 _ _ h1
theorem LH.at {γ : GE} {ls : Array Slot} {nL : Nat} {L : List (Option Value)} (h : LH γ ls nL L) {i : Nat} {v : Value} (hv : L[i]? = some (some v)) : ls[i]? = some (.val (rv γ v)) := h.2.2.2 i v hv
theorem inv1_get {L : List (Option Value)} {i a : Nat} {w : Value} (h : (inv1 L i)[a]? = some (some w)) : L[a]? = some (some w) ∧ ¬ (a + 1 = i ∧ w.category = 2) := by
  have key : ∀ j, i = j + 1 → (L.set j none)[a]? = some (some w) → L[a]? = some (some w) ∧ ¬ (a + 1 = i ∧ w.category = 2) := by
    intro j hj h
    by_cases ha : a = j
    · subst ha
      rw [List.getElem?_set] at h
      simp at h
    · rw [List.getElem?_set_ne (Ne.symm ha)] at h
      exact ⟨h, fun q => ha (by omega)⟩
  unfold inv1 at h
  split at h
  · exact ⟨h, fun q => by omega⟩
  · rename_i j
    split at h
    · exact key j rfl h
    · exact key j rfl h
    · rename_i h1 h2
      refine ⟨h, fun q => ?_⟩
      have e1 : a = j := by omega
      subst e1
      cases w <;> first | exact h1 _ h | exact h2 _ h | exact absurd q.2 (by simp [Value.category])
theorem inv1_len {L : List (Option Value)} {i : Nat} : (inv1 L i).length = L.length := by
  unfold inv1
  split
  · rfl
  · split <;> simp
theorem LH.put1 {γ : GE} {ls : Array Slot} {nL : Nat} {L : List (Option Value)} {i : Nat} {v : Value} (hL : L.length = nL) (h : lv_has ls nL ((i, rv γ v) :: (aL γ L).filter (fun q => !(q.1 == i) && !(q.1 + 1 == i && q.2.category == 2)))) : LH γ ls nL (set1 L i v) := by
  refine ⟨h.1, by unfold set1; rw [List.length_set, inv1_len, hL], h.2.1, fun a w hw => ?_⟩
  unfold set1 at hw
  by_cases ha : a = i
  · subst ha
    rw [List.getElem?_set] at hw
    simp at hw
    rw [← hw.2]
    exact h.2.2 _ List.mem_cons_self
  · rw [List.getElem?_set_ne (Ne.symm ha)] at hw
    obtain ⟨h1, h2⟩ := inv1_get hw
    refine h.2.2 (a, rv γ w) (List.mem_cons_of_mem _ (List.mem_filter.mpr ⟨mem_aL.mpr ⟨w, h1, rfl⟩, ?_⟩))
    simp only [Bool.and_eq_true, Bool.not_eq_true', beq_eq_false_iff_ne, ne_eq, Bool.and_eq_false_iff, rv_cat]
    refine ⟨ha, ?_⟩
    by_cases hb : a + 1 = i
    · exact Or.inr (fun q => h2 ⟨hb, q⟩)
    · exact Or.inl hb
theorem LH.put2 {γ : GE} {ls : Array Slot} {nL : Nat} {L : List (Option Value)} {i : Nat} {v : Value} (hL : L.length = nL) (h : lv_has ls nL ((i, rv γ v) :: (aL γ L).filter (fun q => !(q.1 == i) && (!(q.1 == i + 1) && !(q.1 + 1 == i && q.2.category == 2))))) : LH γ ls nL (set2 L i v) := by
  refine ⟨h.1, by unfold set2; rw [List.length_set, List.length_set, inv1_len, hL], h.2.1, fun a w hw => ?_⟩
  unfold set2 at hw
  by_cases hc : a = i + 1
  · subst hc
    rw [List.getElem?_set] at hw
    simp at hw
  rw [List.getElem?_set_ne (Ne.symm hc)] at hw
  by_cases ha : a = i
  · subst ha
    rw [List.getElem?_set] at hw
    simp at hw
    rw [← hw.2]
    exact h.2.2 _ List.mem_cons_self
  · rw [List.getElem?_set_ne (Ne.symm ha)] at hw
    obtain ⟨h1, h2⟩ := inv1_get hw
    refine h.2.2 (a, rv γ w) (List.mem_cons_of_mem _ (List.mem_filter.mpr ⟨mem_aL.mpr ⟨w, h1, rfl⟩, ?_⟩))
    simp only [Bool.and_eq_true, Bool.not_eq_true', beq_eq_false_iff_ne, ne_eq, Bool.and_eq_false_iff, rv_cat]
    refine ⟨ha, hc, ?_⟩
    by_cases hb : a + 1 = i
    · exact Or.inr (fun q => h2 ⟨hb, q⟩)
    · exact Or.inl hb
/-! heap -/
theorem Sim.put {γ : GE} {S : List Sh} {I I' : AI} {J J' : AJ} {H H' : Heap} {n : Nat} {sh sh' : Sh} (h : Sim γ S I J H) (hn : S[n]? = some sh) (hI : ∀ a, a ≠ n → I' a = I a) (hJ : ∀ a, a ≠ n → J' a = J a)
    (hat : va_at (g_D γ) vwCl (g_ad γ n, cE γ (I' n) (J' n) sh') H') (hz : H'.size = H.size) (ho : ∀ q, q ≠ g_ad γ n → H'[q]? = H[q]?) : Sim γ (S.set n sh') I' J' H' := by
  have hl : n < S.length := (List.getElem?_eq_some_iff.mp hn).1
  have h1 := h.1.set h.2.1 (wld_get hn) hat ho
  have h2 := h.2.1.set (e := cE γ (I' n) (J' n) sh') (wld_get hn)
  rw [wld_set hl hI hJ] at h1 h2
  exact ⟨h1, h2, fun k => by rw [List.length_set, hz]; exact h.2.2 k⟩
theorem Sim.inA {γ : GE} {S : List Sh} {I : AI} {J : AJ} {H : Heap} {n : Nat} {sh : Sh} (h : Sim γ S I J H) (hn : S[n]? = some sh) : g_A γ (g_ad γ n) := h.2.1.2 n _ (wld_get hn)
theorem fsl_get {γ : GE} {i : Nat → Int32} {j : Nat → Int64} {ks : List Kd} {f : Nat} {kd : Kd} (h : ks[f]? = some kd) : (fsl γ i j ks)[f]? = some (fv γ i j f kd) := by
  unfold fsl; rw [List.getElem?_mapIdx, h]; rfl
theorem fsl_set {γ : GE} {i i' : Nat → Int32} {j j' : Nat → Int64} {ks : List Kd} {f : Nat} {kd : Kd} (hf : f < ks.length) (hi : ∀ a, a ≠ f → i' a = i a) (hj : ∀ a, a ≠ f → j' a = j a) : (fsl γ i j ks).set f (fv γ i' j' f kd) = fsl γ i' j' (ks.set f kd) := by
  apply List.ext_getElem?
  intro a
  by_cases ha : a = f
  · subst ha
    rw [List.getElem?_set_self (by unfold fsl; rw [List.length_mapIdx]; exact hf), fsl_get (List.getElem?_set_self hf)]
  · rw [List.getElem?_set_ne (Ne.symm ha)]
    unfold fsl
    rw [List.getElem?_mapIdx, List.getElem?_mapIdx, List.getElem?_set_ne (Ne.symm ha)]
    cases ks[a]? with
    | none => rfl
    | some kd' =>
      show some _ = some _
      congr 1
      match kd' with
      | .inl 0 => show Value.int _ = Value.int _; rw [hi a ha]
      | .inl (z + 1) => show Value.long _ = Value.long _; rw [hj a ha]
      | .inr r => rfl
theorem ks_same {ks : List Kd} {f : Nat} {kd : Kd} (h : ks[f]? = some kd) : ks.set f kd = ks := by
  apply List.ext_getElem?
  intro k
  by_cases hk : k = f
  · subst hk
    rw [List.getElem?_set_self (List.getElem?_eq_some_iff.mp h).1, h]
  · rw [List.getElem?_set_ne (Ne.symm hk)]
theorem kval_rv {γ : GE} {I : AI} {J : AJ} {a f : Nat} {kd : Kd} : fv γ (I a) (J a) f kd = rv γ (kval I J a f kd) := by
  match kd with
  | .inl 0 => rfl
  | .inl (z + 1) => rfl
  | .inr none => rfl
  | .inr (some x) => rfl
theorem upI_ne {I : AI} {n k a : Nat} {x : Int32} (h : a ≠ n) : upI I n k x a = I a := by funext b; simp [upI, h]
theorem upJ_ne {J : AJ} {n k a : Nat} {x : Int64} (h : a ≠ n) : upJ J n k x a = J a := by funext b; simp [upJ, h]
theorem upI_at {I : AI} {n k : Nat} {x : Int32} : upI I n k x n = upd (I n) k x := by funext b; simp [upI, upd]
theorem upJ_at {J : AJ} {n k : Nat} {x : Int64} : upJ J n k x n = vp_updL (J n) k x := by funext b; simp [upJ, vp_updL]
section AMW
variable {p : Program} {l : Launch} {e : Env} {R : Room} {s : State} {mid : MethodId} {args : Array Value} {below : List Frame} {meth : Method} {c : Code} {H : Heap} {locs : List Loc} {cells slots : Nat} {Q : State → Prop} {cc : ByteArray} {pc : Nat} {ls : Array Slot} {rest : List Value}
/-- a field is written: any kind -/
theorem am_put {γ : GE} {S : List Sh} {I I' : AI} {J J' : AJ} {own : String} {idx ci a f : Nat} {r : vw_C} {ks : List Kd} {kd kd' : Kd} {v : Value} {ty : FieldType} (hx : p.tables.exec = Jvm.exec) (hb : c.code = cc) (hts : ∀ w ∈ gw_tbl, w.before args s = true) (hown : s.vm.findClass own = some mid.cls) (hK : Kn γ s) (hSim : Sim γ S I J H) (hS : va_S (g_A γ) s.heap H locs)
    (hr : vwCl[ci]? = some r) (hf : f < r.2.2) (hlink : Jvm.Cond.fieldLink own idx (r.2.1 f).1 (r.2.1 f).2.1 (r.2.1 f).2.2.1 ∈ gw_tbl) (ha : S[a]? = some (.inr (ci, ks))) (hk : ks[f]? = some kd) (hfin : (r.2.1 f).2.2.2 = true → meth.name = "<init>" ∧ (r.2.1 f).1 = own)
    (hd : parseFieldDescriptor (r.2.1 f).2.2.1 = some ty) (hn : narrow ty v = v) (hfit : fits ty v = true) (hv : v = fv γ (I' a) (J' a) f kd') (hI : ∀ x, x ≠ a → I' x = I x) (hJ : ∀ x, x ≠ a → J' x = J x) (hi : ∀ x, x ≠ f → I' a x = I a x) (hj : ∀ x, x ≠ f → J' a x = J a x)
    (hdg : decode cc pc = .ok (.putfield idx, 3)) (kk : ∀ (H1 : Heap) (locs1 : List Loc), Sim γ (S.set a (.inr (ci, ks.set f kd'))) I' J' H1 → va_S (g_A γ) s.heap H1 locs1 → W p l e R s mid args below meth c H1 locs1 cells slots Q (F0 mid (pc + 3) ls rest)) : W p l e R s mid args below meth c H locs cells slots Q (F0 mid pc ls (v :: .ref (g_ad γ a) :: rest)) := by
  obtain ⟨hin, hty, hnm, -⟩ := clsOK ci r hr
  have hap := va_apart (own := own) hts hin (tyC ci) hty hnm hK hr
  obtain ⟨r', h1, cell, q1, q2, q3, q4⟩ := hSim.1 a _ (wld_get ha)
  have hrr : r' = r := Option.some.inj (h1.symm.trans hr)
  subst hrr
  obtain ⟨hSl, hfc, kC, hkC, hkind⟩ := hK.1 ci _ hr
  obtain ⟨cf, kf, fi, fd, hfi, hsl⟩ := hSl f hf
  have hlay := hts _ (hin _ (u_in_lay hf))
  unfold u_lay at hlay
  have hst := (u_facts hfc hkC (u_lays hts hin hf) hfi).1
  have hlt : f < (fsl γ (I a) (J a) ks).length := by unfold fsl; rw [List.length_mapIdx]; exact (List.getElem?_eq_some_iff.mp hk).1
  have fin : ∀ (H' : Heap), H'[g_ad γ a]? = some (cell.setSlot fd.slot v) → H'.size = H.size → (∀ q, q ≠ g_ad γ a → H'[q]? = H[q]?) → W p l e R s mid args below meth c H' (locs ++ [⟨g_ad γ a, fd.slot⟩]) cells slots Q (F0 mid (pc + 3) ls rest) := by
    intro H' e1 e2 e3
    rw [hsl] at e1 ⊢
    refine kk H' _ (hSim.put ha hI hJ ?_ e2 e3) (hS.put e2 e3 (hSim.inA ha))
    refine ⟨_, hr, ?_⟩
    have := t_OB.to (V := updV (vp_V (fsl γ (I a) (J a) ks)) f v) ⟨_, e1, q2, q3, t_set q4 hap hf v⟩ (fun j _ => vp_updV_set hlt v j)
    rw [hv, fsl_set (by unfold fsl at hlt; rw [List.length_mapIdx] at hlt; exact hlt) hi hj] at this
    exact this
  by_cases hfn : (r'.2.1 f).2.2.2 = true
  · rw [if_pos hfn] at hlay
    obtain ⟨hin2, hdecl⟩ := hfin hfn
    have hcf : mid.cls = cf := by
      obtain ⟨_, _, c', _, _, _, -, -, hf', -, -, -, hown2, -⟩ := Cond.laysFinal_spec hlay
      have e1 : c' = cf := by have := hfi.symm.trans hf'; simp at this; exact this.1.symm
      rw [hdecl] at hown2
      rw [← e1]; exact Option.some.inj (hown.symm.trans hown2)
    have h6 := u_fits hfc hkC hkind (Or.inr hlay) hfi hd hn hfit
    exact W.putFinK hx hb hown (hts _ hlink) hfi hst hcf hin2 (by rw [q2]; exact h6) q1 q3 (by rw [hsl]; exact k2_hasslot (q4 f hf)) rfl rfl hdg fin
  · rw [if_neg hfn] at hlay
    have h6 := u_store hfc hkC hkind hlay hfi hd hn hfit
    exact W.putK hx hb (f := fd) ⟨hown, hts _ hlink, ⟨_, _, _, hfi⟩, hst⟩ (by rw [q2]; exact h6) q1 q3 (by rw [hsl]; exact k2_hasslot (q4 f hf)) rfl rfl hdg fin
theorem am_get {γ : GE} {S : List Sh} {I : AI} {J : AJ} {own : String} {idx ci a f : Nat} {r : vw_C} {ks : List Kd} {kd : Kd} (hx : p.tables.exec = Jvm.exec) (hb : c.code = cc) (hts : ∀ w ∈ gw_tbl, w.before args s = true) (hown : s.vm.findClass own = some mid.cls) (hK : Kn γ s) (hSim : Sim γ S I J H)
    (hr : vwCl[ci]? = some r) (hf : f < r.2.2) (hlink : Jvm.Cond.fieldLink own idx (r.2.1 f).1 (r.2.1 f).2.1 (r.2.1 f).2.2.1 ∈ gw_tbl) (ha : S[a]? = some (.inr (ci, ks))) (hk : ks[f]? = some kd)
    (hdg : decode cc pc = .ok (.getfield idx, 3)) (kk : W p l e R s mid args below meth c H locs cells slots Q (F0 mid (pc + 3) ls (rv γ (kval I J a f kd) :: rest))) : W p l e R s mid args below meth c H locs cells slots Q (F0 mid pc ls (.ref (g_ad γ a) :: rest)) := by
  obtain ⟨hin, hty, hnm, -⟩ := clsOK ci r hr
  exact va_get (C := r.1) (T := r.2.1) (N := r.2.2) hx hb hts hin hown hK hSim.1 a (wld_get ha) hr f hf (hts _ hlink) (fun _ h => h) (by rw [fsl_get hk, kval_rv]) hdg kk
end AMW
