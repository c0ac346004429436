/-! ===== an abstract machine over the kit: cells by shapes S (kinds, lengths, references), contents by two functions I (ints), J (longs); references are places in S; outer cells (script, texts) are .retAddr k ===== -/
abbrev AI : Type := Nat → Nat → Int32
abbrev AJ : Type := Nat → Nat → Int64
/-- a field: .inl 0 an int, .inl 1 a long, .inr r a reference -/
abbrev Kd : Type := Nat ⊕ Option Nat
abbrev Sh : Type := (FieldType × Nat × List (Option Nat)) ⊕ (Nat × List Kd)
/-- launch, classes, slots, array classes, addresses of places, outer addresses, first own address, script -/
abbrev GE : Type := Launch × (Nat → ClassId) × (Nat → Nat → Nat) × (FieldType → ClassId) × (Nat → Nat) × (Nat → Nat) × Nat × Nat × (Nat → Int32)
abbrev g_l (γ : GE) : Launch := γ.1
abbrev g_D (γ : GE) : va_G := (γ.2.1, γ.2.2.1)
abbrev g_C (γ : GE) : FieldType → ClassId := γ.2.2.2.1
abbrev g_ad (γ : GE) : Nat → Nat := γ.2.2.2.2.1
abbrev g_ex (γ : GE) : Nat → Nat := γ.2.2.2.2.2.1
abbrev g_B (γ : GE) : Nat := γ.2.2.2.2.2.2.1
abbrev g_xn (γ : GE) : Nat := γ.2.2.2.2.2.2.2.1
abbrev g_xs (γ : GE) : Nat → Int32 := γ.2.2.2.2.2.2.2.2
def g_A (γ : GE) : Nat → Prop := fun q => g_B γ ≤ q
def rv (γ : GE) : Value → Value
  | .ref a => .ref (g_ad γ a)
  | .retAddr k => .ref (g_ex γ k)
  | v => v
def fv (γ : GE) (i : Nat → Int32) (j : Nat → Int64) (k : Nat) : Kd → Value
  | .inl 0 => .int (i k)
  | .inl (_ + 1) => .long (j k)
  | .inr r => va_rf (r.map (g_ad γ))
def ac (γ : GE) (i : Nat → Int32) (j : Nat → Int64) (a : FieldType × Nat × List (Option Nat)) : vp_A := match a.1 with
  | .long => (a.2.1, .inr (.inl j))
  | .object _ => (a.2.1, .inr (.inr (.inr (.inr (fun x => (a.2.2.getD x none).map (g_ad γ))))))
  | _ => (a.2.1, .inl i)
def fsl (γ : GE) (i : Nat → Int32) (j : Nat → Int64) (ks : List Kd) : List Value := ks.mapIdx (fun k kd => fv γ i j k kd)
def cE (γ : GE) (i : Nat → Int32) (j : Nat → Int64) : Sh → va_E
  | .inl a => .inl (g_C γ a.1, ac γ i j a)
  | .inr o => .inr (o.1, fsl γ i j o.2)
def wld (γ : GE) (S : List Sh) (I : AI) (J : AJ) : va_W := S.mapIdx (fun n sh => (g_ad γ n, cE γ (I n) (J n) sh))
theorem wld_get {γ : GE} {S : List Sh} {I : AI} {J : AJ} {n : Nat} {sh : Sh} (h : S[n]? = some sh) : (wld γ S I J)[n]? = some (g_ad γ n, cE γ (I n) (J n) sh) := by
  unfold wld
  rw [List.getElem?_mapIdx, h]; rfl
theorem wld_len {γ : GE} {S : List Sh} {I : AI} {J : AJ} : (wld γ S I J).length = S.length := by
  unfold wld; exact List.length_mapIdx
theorem wld_set {γ : GE} {S : List Sh} {I I' : AI} {J J' : AJ} {n : Nat} {sh : Sh} (hn : n < S.length) (hI : ∀ a, a ≠ n → I' a = I a) (hJ : ∀ a, a ≠ n → J' a = J a) : (wld γ S I J).set n (g_ad γ n, cE γ (I' n) (J' n) sh) = wld γ (S.set n sh) I' J' := by
  apply List.ext_getElem?
  intro k
  by_cases hk : k = n
  · subst hk
    rw [List.getElem?_set_self (by rw [wld_len]; exact hn)]
    rw [wld_get (List.getElem?_set_self hn)]
  · rw [List.getElem?_set_ne (Ne.symm hk)]
    unfold wld
    rw [List.getElem?_mapIdx, List.getElem?_mapIdx, List.getElem?_set_ne (Ne.symm hk), hI k hk, hJ k hk]
theorem wld_push {γ : GE} {S : List Sh} {I I' : AI} {J J' : AJ} {sh : Sh} (hI : ∀ a, a ≠ S.length → I' a = I a) (hJ : ∀ a, a ≠ S.length → J' a = J a) : wld γ S I J ++ [(g_ad γ S.length, cE γ (I' S.length) (J' S.length) sh)] = wld γ (S ++ [sh]) I' J' := by
  apply List.ext_getElem?
  intro k
  rcases Nat.lt_trichotomy k S.length with hk | hk | hk
  · rw [List.getElem?_append_left (by rw [wld_len]; exact hk)]
    unfold wld
    rw [List.getElem?_mapIdx, List.getElem?_mapIdx, List.getElem?_append_left hk, hI k (Nat.ne_of_lt hk), hJ k (Nat.ne_of_lt hk)]
  · subst hk
    rw [List.getElem?_append_right (by rw [wld_len]; exact Nat.le_refl _), wld_len, Nat.sub_self]
    rw [wld_get (sh := sh) (by rw [List.getElem?_append_right (Nat.le_refl _), Nat.sub_self]; rfl)]
    rfl
  · rw [List.getElem?_eq_none (by rw [List.length_append, wld_len]; simp; omega), List.getElem?_eq_none (by rw [wld_len, List.length_append]; simp; omega)]
theorem set_same {S : List Sh} {n : Nat} {sh : Sh} (h : S[n]? = some sh) : S.set n sh = S := by
  apply List.ext_getElem?
  intro k
  by_cases hk : k = n
  · subst hk
    rw [List.getElem?_set_self (List.getElem?_eq_some_iff.mp h).1, h]
  · rw [List.getElem?_set_ne (Ne.symm hk)]
/-- the machine's heap holds the picture -/
def Sim (γ : GE) (S : List Sh) (I : AI) (J : AJ) (H : Heap) : Prop := va_P (g_D γ) vwCl (wld γ S I J) H ∧ va_D (g_A γ) (wld γ S I J) ∧ ∀ k, g_ad γ (S.length + k) = H.size + k
abbrev g_tys (γ : GE) : List (ClassId × FieldType) := [(g_C γ .int, .int), (g_C γ .long, .long), (g_C γ .boolean, .boolean), (g_C γ (.object RX0), .object RX0), (g_C γ (.object RX4), .object RX4)]
def Kn (γ : GE) (s : State) : Prop := va_K (g_D γ) vwCl (g_tys γ) s
def tx0 : String := "warn lift wait when or and not seen words doubtful near soon people left ears hour "
def tx1 : String := ";+-*/()<=>"
def txB : List (List Int32) := [[119, 97, 114, 110, 32, 108, 105, 102, 116, 32, 119, 97, 105, 116, 32, 119, 104, 101, 110, 32, 111, 114, 32, 97, 110, 100, 32, 110, 111, 116, 32, 115, 101, 101, 110, 32, 119, 111, 114, 100, 115, 32, 100, 111, 117, 98, 116, 102, 117, 108, 32, 110, 101, 97, 114, 32, 115, 111, 111, 110, 32, 112, 101, 111, 112, 108, 101, 32, 108, 101, 102, 116, 32, 101, 97, 114, 115, 32, 104, 111, 117, 114, 32], [59, 43, 45, 42, 47, 40, 41, 60, 61, 62]]
def txL : List Nat := [83, 10]
def nestL : List (String × Nat × MethodName × String) := [("StormOffice", 18, ⟨"StormOffice$Radar", "<init>", "()V"⟩, "StormOffice"), ("StormOffice", 77, ⟨"StormOffice$CellSet", "<init>", "()V"⟩, "StormOffice"), ("StormOffice", 87, ⟨"StormOffice$Rules", "<init>", "()V"⟩, "StormOffice"), ("StormOffice$Heart", 20, ⟨"StormOffice$CellSet", "<init>", "()V"⟩, "StormOffice"), ("StormOffice$Land", 30, ⟨"StormOffice$CellSet", "<init>", "()V"⟩, "StormOffice"), ("StormOffice$Lookouts", 17, ⟨"StormOffice$CellSet", "<init>", "()V"⟩, "StormOffice"), ("StormOffice$Radar", 9, ⟨"StormOffice$CellSet", "<init>", "()V"⟩, "StormOffice"), ("StormOffice$Walks", 11, ⟨"StormOffice$CellSet", "<init>", "()V"⟩, "StormOffice"), ("StormOffice$Warnings", 42, ⟨"StormOffice$CellSet", "<init>", "()V"⟩, "StormOffice")]
/-- what a failing index would be told with: null or an outer cell (5) -/
def ExF (γ : GE) (U : State) (H : Heap) : Prop := va_Z "jdk/internal/util/Preconditions" "SIOOBE_FORMATTER" "Ljava/util/function/BiFunction;" .null (g_A γ) U H ∨ va_Z "jdk/internal/util/Preconditions" "SIOOBE_FORMATTER" "Ljava/util/function/BiFunction;" (.ref (g_ex γ 5)) (g_A γ) U H
/-- the outer cells: the script (0), the two texts (1, 3) and their bytes (2, 4) -/
def Ext (γ : GE) (U : State) (H : Heap) : Prop :=
  va_X (g_ex γ 0) (g_xn γ) (g_xs γ) U H ∧ g_ex γ 0 < H.size ∧ ¬ g_A γ (g_ex γ 0) ∧ vk_S 2 txL txB (fun i => g_ex γ (2 * i + 1)) (fun i => g_ex γ (2 * i + 2)) (g_A γ) U H ∧ (va_Z "java/lang/String" "COMPACT_STRINGS" "Z" (.int 1) (g_A γ) U H ∧ ExF γ U H) ∧ vk_R RX5 128 tx0 (g_ex γ 1) U ∧ vk_R RX5 120 tx1 (g_ex γ 3) U ∧ (∀ q ∈ nestL, va_Nw (.methodLinkNest q.1 q.2.1 q.2.2.1 q.2.2.2) U) ∧ va_AO RX0 U ∧ va_AO RX4 U
theorem Ext.go {γ : GE} {s U : State} {H : Heap} {locs : List Loc} (h : Ext γ s s.heap) (hS : va_S (g_A γ) s.heap H locs) (hU : U.heap = H) (hW : s.WarmedH U.vm) : Ext γ U U.heap := by
  obtain ⟨h1, h2, h3, h4, h5, h6, h7, h8, h9, h10⟩ := h
  have hq : ∀ a : Nat, a < s.heap.size → ¬ g_A γ a → U.heap[a]? = s.heap[a]? := fun a q1 q2 => by rw [hU]; exact hS.2.1 a q1 q2
  exact ⟨(h1.kept (hq _ h2 h3)).moved hW.alike, by rw [hU]; exact Nat.lt_of_lt_of_le h2 hS.1, h3, (h4.kept hq).moved hW.alike, ⟨(h5.1.kept hq).moved hW.alike, h5.2.elim (fun z => Or.inl ((z.kept hq).moved hW.alike)) (fun z => Or.inr ((z.kept hq).moved hW.alike))⟩, h6.warm hW, h7.warm hW, fun q hq => (h8 q hq).warmM hW, h9.moved hW.alike, h10.moved hW.alike⟩
theorem Ext.call {γ : GE} {U : State} {g : JFrame} {mk : MethodId} {a : Array Value} (h : Ext γ U U.heap) : Ext γ (U.calling g mk a) (U.calling g mk a).heap := by
  obtain ⟨h1, h2, h3, h4, h5, h6, h7, h8, h9, h10⟩ := h
  exact ⟨h1.moved (Vm.Alike.refl U.vm), h2, h3, h4.moved (Vm.Alike.refl U.vm), ⟨h5.1.moved (Vm.Alike.refl U.vm), h5.2.elim (fun z => Or.inl (z.moved (Vm.Alike.refl U.vm))) (fun z => Or.inr (z.moved (Vm.Alike.refl U.vm)))⟩, h6.same rfl, h7.same rfl, fun q hq => (h8 q hq).same rfl rfl, h9.moved (Vm.Alike.refl U.vm), h10.moved (Vm.Alike.refl U.vm)⟩
/-- the locals by their numbers -/
def LH (γ : GE) (ls : Array Slot) (nL : Nat) (L : List (Option Value)) : Prop := ls.size = nL ∧ L.length = nL ∧ lv_wf ls ∧ ∀ (i : Nat) (v : Value), L[i]? = some (some v) → ls[i]? = some (.val (rv γ v))
