/-! ===== the office is the reference: all of it; what stays where cells are unchanged ===== -/
def OLand (I : AI) (J : AJ) : Prop := OLd I ∧ OCr I ∧ (∀ k, k < 8 → cs J (8 + k) (fun x => decide (I 101 x = nI k))) ∧ cs J 7 (fun x => decide (¬ I 104 x = 0))
def OTap (I : AI) : Prop := I 95 4 = I 100 23 ∧ (∀ i, i < 800 → I 96 i = I 118 i) ∧ I 95 8 = I 100 42 ∧ I 95 9 = I 100 43
def ONow (I : AI) : Prop := I 0 15 = I 100 5 ∧ I 0 14 = I 100 44
def rA (b : Bool) : Nat := match b with | true => 87 | false => 79
def OAll (I : AI) (J : AJ) (b : Bool) (ls : List Ln) : Prop := OLand I J ∧ ORad I J ∧ OTel I ∧ OHea I J ∧ OWal I ∧ OWar I J ∧ OTru I ∧ OPos I J ∧ OTap I ∧ ONow I ∧ ORul I (rA b) ls
def MAll (I : AI) (ls : List Ln) : Prop := I 100 0 = 0 ∧ MLand I ∧ MRad I ∧ MTel I ∧ rg 720 (I 100 5) ∧ rg 720 (I 100 7) ∧ (rg 512 (I 100 6) ∧ ¬ I 100 6 = 0) ∧ MWar I ∧ WDis I ∧ MTru I ∧ MPos I ∧ MTape I ∧ MWds I ∧ MRul I ls ∧ bz (I 100 44)
theorem pM_k {I I' : AI} (h : I' 102 = I 102) (p : Nat → Bool) : ∀ n, pM I' p n = pM I p n
  | 0 => rfl
  | n + 1 => by unfold pM; rw [h, pM_k h p n]
theorem cwM_k {I I' : AI} (h1 : I' 101 = I 101) (h2 : I' 102 = I 102) (k n : Nat) : cwM I' k n = cwM I k n := by
  unfold cwM; rw [h1, pM_k h2]
theorem OLd_k {I I' : AI} (h : ∀ a, (2 ≤ a ∧ a ≤ 4) ∨ (101 ≤ a ∧ a ≤ 103) → I' a = I a) (hO : OLd I) : OLd I' := fun x hx => by
  rw [h 2 (by omega), h 3 (by omega), h 4 (by omega), h 101 (by omega), h 102 (by omega), h 103 (by omega)]; exact hO x hx
theorem OCr_k {I I' : AI} (h : ∀ a, a = 6 ∨ a = 101 ∨ a = 102 → I' a = I a) (hO : OCr I) : OCr I' := fun k hk => by
  rw [h 6 (by omega), cwM_k (h 101 (by omega)) (h 102 (by omega))]; exact hO k hk
theorem OLand_k {I I' : AI} {J J' : AJ} (h : ∀ a, (2 ≤ a ∧ a ≤ 6) ∨ (101 ≤ a ∧ a ≤ 104) → I' a = I a) (hJ : ∀ a, 7 ≤ a → a ≤ 15 → J' a = J a) (hO : OLand I J) : OLand I' J' := by
  refine ⟨OLd_k (fun a q => h a (by omega)) hO.1, OCr_k (fun a q => h a (by omega)) hO.2.1, fun k hk => ?_, ?_⟩
  · rw [h 101 (by omega)]; exact cs_k (hJ _ (by omega) (by omega)) (hO.2.2.1 k hk)
  · rw [h 104 (by omega)]; exact cs_k (hJ _ (by omega) (by omega)) hO.2.2.2
theorem OHea_k {I I' : AI} {J J' : AJ} (h37 : I' 37 = I 37) (hb : ∀ a, 105 ≤ a → a ≤ 115 → I' a = I a) (h6 : I' 100 6 = I 100 6) (h7 : I' 100 7 = I 100 7) (h13 : I' 100 13 = I 100 13) (hJ8 : J' 38 = J 38) (hJ9 : J' 39 = J 39) (hO : OHea I J) : OHea I' J' := by
  obtain ⟨h1, h2, kk, km, a1, a2, a3, a4, a5⟩ := hO
  refine ⟨by rw [h37, h6]; exact h1, by rw [h37, h7]; exact h2, kk, km, by rw [h13]; exact a1, a2, by rw [h37]; exact a3, by rw [h37]; exact a4, fun s hs => ?_⟩
  rw [hJ8, hJ9]
  obtain ⟨r1, r2, r3⟩ := a5 s hs
  exact ⟨r1, r2, fun x hx => by rw [r3 x hx, mayK_k hb h6 h7 h13]⟩
theorem OWal_k {I I' : AI} (h2 : I' 42 11 = I 42 11) (h7 : I' 47 = I 47) (h8 : I' 48 = I 48) (hO : OWal I) : OWal I' := by
  unfold OWal; rw [h2]
  rcases hO with h | h
  · exact Or.inl h
  · exact Or.inr (TgOK_k h7 h8 h)
theorem laW_k {I I' : AI} (h : I' 127 = I 127) (y : Int32) : ∀ n, laW I' y n = laW I y n
  | 0 => rfl
  | n + 1 => by unfold laW; rw [h, laW_k h y n]
theorem hsN_k {I I' : AI} (h : I' 132 = I 132) (w x n : Nat) : hsN I' w x n = hsN I w x n := by unfold hsN; rw [h]
theorem OWar_k {I I' : AI} {J J' : AJ} (h : ∀ a, (52 ≤ a ∧ a ≤ 61) ∨ (127 ≤ a ∧ a ≤ 133) → I' a = I a) (h45 : I' 100 45 = I 100 45) (hJ8 : J' 58 = J 58) (hJ9 : J' 59 = J 59) (hO : OWar I J) : OWar I' J' := by
  refine ⟨by rw [h 52 (by omega), h45]; exact hO.1, fun w hw => ?_, fun k hk => ?_⟩
  · rw [h45] at hw
    obtain ⟨a1, a2, a3, a4, a5, a6, a7, a8⟩ := hO.2.1 w hw
    rw [h 53 (by omega), h 54 (by omega), h 55 (by omega), h 56 (by omega), h 57 (by omega), h 127 (by omega), h 128 (by omega), h 129 (by omega), h 130 (by omega), h 131 (by omega), hJ8, hJ9]
    exact ⟨a1, a2, a3, a4, a5, a6, a7, fun x hx => by rw [a8 x hx, hsN_k (h 132 (by omega))]⟩
  · rw [h 60 (by omega), h 61 (by omega), h 133 (by omega), h45, laW_k (h 127 (by omega))]; exact hO.2.2 k hk
theorem OTru_k {I I' : AI} (h1 : I' 64 = I 64) (h2 : I' 139 = I 139) (hO : OTru I) : OTru I' := by unfold OTru; rw [h1, h2]; exact hO
theorem allP_k {I I' : AI} (h : I' 140 = I 140) : ∀ n, allP I' n = allP I n
  | 0 => rfl
  | n + 1 => by unfold allP; rw [h, allP_k h n]
theorem OPos_k {I I' : AI} {J J' : AJ} (h3 : I' 65 3 = I 65 3) (h0 : I' 140 = I 140) (h1 : I' 141 = I 141) (h2 : I' 142 = I 142) (hJ : ∀ a, 68 ≤ a → a ≤ 75 → J' a = J a) (hO : OPos I J) : OPos I' J' := by
  refine ⟨by rw [h3, allP_k h0]; exact hO.1, fun p hp hq => ?_⟩
  rw [h0] at hq
  have e : vwF I' p = vwF I p := by funext x; unfold vwF; rw [h1, h2]
  rw [e]
  exact cs_k (hJ _ (by omega) (by omega)) (hO.2 p hp hq)
theorem OTap_k {I I' : AI} (h95 : I' 95 4 = I 95 4 ∧ I' 95 8 = I 95 8 ∧ I' 95 9 = I 95 9) (h96 : I' 96 = I 96) (h118 : I' 118 = I 118) (h : I' 100 23 = I 100 23 ∧ I' 100 42 = I 100 42 ∧ I' 100 43 = I 100 43) (hO : OTap I) : OTap I' := by
  unfold OTap; rw [h95.1, h95.2.1, h95.2.2, h96, h118, h.1, h.2.1, h.2.2]; exact hO
theorem ONow_k {I I' : AI} (h1 : I' 0 15 = I 0 15) (h2 : I' 0 14 = I 0 14) (h3 : I' 100 5 = I 100 5) (h4 : I' 100 44 = I 100 44) (hO : ONow I) : ONow I' := by
  unfold ONow; rw [h1, h2, h3, h4]; exact hO
/-- the reference's cells, but for its scratch -/
def mCell (a : Nat) : Bool := Nat.ble 100 a && !(scr a) && !(a == 117)
theorem MLand_k {I I' : AI} (h : ∀ a, 101 ≤ a → a ≤ 104 → I' a = I a) (hO : MLand I) : MLand I' := fun x hx => by
  rw [h 101 (by omega) (by omega), h 102 (by omega) (by omega), h 103 (by omega) (by omega), h 104 (by omega) (by omega)]; exact hO x hx
theorem MWar_k {I I' : AI} (h : ∀ a, 127 ≤ a → a ≤ 133 → I' a = I a) (h45 : I' 100 45 = I 100 45) (h5 : I' 100 5 = I 100 5) (hO : MWar I) : MWar I' := by
  unfold MWar
  rw [h45, h5, h 127 (by omega) (by omega), h 128 (by omega) (by omega), h 129 (by omega) (by omega), h 130 (by omega) (by omega), h 131 (by omega) (by omega), h 133 (by omega) (by omega)]
  exact hO
theorem WDis_k {I I' : AI} (h : ∀ a, 127 ≤ a → a ≤ 133 → I' a = I a) (h45 : I' 100 45 = I 100 45) (h5 : I' 100 5 = I 100 5) (hO : WDis I) : WDis I' := by
  unfold WDis
  rw [h45, h5, h 127 (by omega) (by omega), h 128 (by omega) (by omega), h 129 (by omega) (by omega)]
  exact hO
theorem MAll_k {I I' : AI} {ls : List Ln} (h : ∀ a, 100 ≤ a → a ≤ 142 → a ≠ 116 → a ≠ 117 → (a < 134 ∨ 138 < a) → I' a = I a) (hM : MAll I ls) : MAll I' ls := by
  obtain ⟨m0, m1, m2, m3, m4, m5, m6, m7, m8, m9, m10, m11, m12, m13, m14⟩ := hM
  have e := h 100 (by omega) (by omega) (by omega) (by omega) (by omega)
  have hb : ∀ a, 105 ≤ a → a ≤ 115 → I' a = I a := fun a q1 q2 => h a (by omega) (by omega) (by omega) (by omega) (by omega)
  have hw : ∀ a, 127 ≤ a → a ≤ 133 → I' a = I a := fun a q1 q2 => h a (by omega) (by omega) (by omega) (by omega) (by omega)
  refine ⟨by rw [e]; exact m0, MLand_k (fun a q1 q2 => h a (by omega) (by omega) (by omega) (by omega) (by omega)) m1, MRad_k hb m2, MTel_k hb (by rw [e]) m3, by rw [e]; exact m4, by rw [e]; exact m5, by rw [e]; exact m6, MWar_k hw (by rw [e]) (by rw [e]) m7, WDis_k hw (by rw [e]) (by rw [e]) m8, ?_, ?_, ?_, ?_, ?_, by rw [e]; exact m14⟩
  · unfold MTru; rw [h 139 (by omega) (by omega) (by omega) (by omega) (by omega)]; exact m9
  · unfold MPos; rw [h 140 (by omega) (by omega) (by omega) (by omega) (by omega), h 141 (by omega) (by omega) (by omega) (by omega) (by omega), h 142 (by omega) (by omega) (by omega) (by omega) (by omega)]; exact m10
  · unfold MTape; rw [e, h 118 (by omega) (by omega) (by omega) (by omega) (by omega)]; exact m11
  · exact MWds_k (h 119 (by omega) (by omega) (by omega) (by omega) (by omega)) m12
  · exact MRul_k (by rw [e]) (h 120 (by omega) (by omega) (by omega) (by omega) (by omega)) (h 121 (by omega) (by omega) (by omega) (by omega) (by omega)) (h 122 (by omega) (by omega) (by omega) (by omega) (by omega)) (h 123 (by omega) (by omega) (by omega) (by omega) (by omega)) (h 124 (by omega) (by omega) (by omega) (by omega) (by omega)) (h 125 (by omega) (by omega) (by omega) (by omega) (by omega)) m13
theorem rA_c (b : Bool) : rA b = 79 ∨ rA b = 87 := by cases b; (· exact Or.inl rfl); exact Or.inr rfl
/-- only the reference's scratch has changed -/
theorem OAll_m {I I' : AI} {J J' : AJ} {b : Bool} {ls : List Ln} (h : ∀ a, a ≤ 142 → a ≠ 116 → a ≠ 117 → (a < 134 ∨ 138 < a) → I' a = I a) (hJ : ∀ a, a < 100 → J' a = J a) (hO : OAll I J b ls) : OAll I' J' b ls := by
  obtain ⟨o1, o2, o3, o4, o5, o6, o7, o8, o9, o10, o11⟩ := hO
  have g : ∀ a, a < 116 ∨ (117 < a ∧ a < 134) ∨ (138 < a ∧ a ≤ 142) → I' a = I a := fun a q => h a (by omega) (by omega) (by omega) (by omega)
  have e := g 100 (by omega)
  have hb : ∀ a, 105 ≤ a → a ≤ 115 → I' a = I a := fun a q1 q2 => g a (by omega)
  refine ⟨OLand_k (fun a q => g a (by omega)) (fun a q1 q2 => hJ a (by omega)) o1, ORad_k (fun r hr => g _ (by omega)) hb (fun a q1 q2 => hJ a (by omega)) o2, OTel_k (fun a q1 q2 => g a (by omega)) hb (by rw [e]) (by rw [e]) o3, OHea_k (g 37 (by omega)) hb (by rw [e]) (by rw [e]) (by rw [e]) (hJ 38 (by omega)) (hJ 39 (by omega)) o4, OWal_k (by rw [g 42 (by omega)]) (g 47 (by omega)) (g 48 (by omega)) o5, OWar_k (fun a q => g a (by omega)) (by rw [e]) (hJ 58 (by omega)) (hJ 59 (by omega)) o6, OTru_k (g 64 (by omega)) (g 139 (by omega)) o7, OPos_k (by rw [g 65 (by omega)]) (g 140 (by omega)) (g 141 (by omega)) (g 142 (by omega)) (fun a q1 q2 => hJ a (by omega)) o8, OTap_k (by rw [g 95 (by omega)]; exact ⟨rfl, rfl, rfl⟩) (g 96 (by omega)) (g 118 (by omega)) (by rw [e]; exact ⟨rfl, rfl, rfl⟩) o9, ONow_k (by rw [g 0 (by omega)]) (by rw [g 0 (by omega)]) (by rw [e]) (by rw [e]) o10, ORul_k (fun a q1 q2 => g a (by have := rA_c b; omega)) o11⟩
/-- the office's scratch has changed: the cache, the walks, what was last asked -/
theorem OAll_q {I I' : AI} {J J' : AJ} {b : Bool} {ls : List Ln} (h : ∀ a, a ≤ 142 → a ≠ 37 → a ≠ 42 → a ≠ 47 → a ≠ 48 → a ≠ 51 → a ≠ 65 → a ≠ 76 → a ≠ 86 → a ≠ 94 → I' a = I a) (h65 : I' 65 3 = I 65 3) (hJ : ∀ a, a < 38 ∨ a = 58 ∨ a = 59 ∨ (68 ≤ a ∧ a ≤ 75) → J' a = J a) (hH : OHea I' J') (hW : OWal I') (hO : OAll I J b ls) : OAll I' J' b ls := by
  obtain ⟨o1, o2, o3, o4, o5, o6, o7, o8, o9, o10, o11⟩ := hO
  have g : ∀ a, a ≤ 142 → a ≠ 37 ∧ a ≠ 42 ∧ a ≠ 47 ∧ a ≠ 48 ∧ a ≠ 51 ∧ a ≠ 65 ∧ a ≠ 76 ∧ a ≠ 86 ∧ a ≠ 94 → I' a = I a := fun a q1 q => h a q1 q.1 q.2.1 q.2.2.1 q.2.2.2.1 q.2.2.2.2.1 q.2.2.2.2.2.1 q.2.2.2.2.2.2.1 q.2.2.2.2.2.2.2.1 q.2.2.2.2.2.2.2.2
  have e := g 100 (by omega) (by omega)
  have hb : ∀ a, 105 ≤ a → a ≤ 115 → I' a = I a := fun a q1 q2 => g a (by omega) (by omega)
  refine ⟨OLand_k (fun a q => g a (by omega) (by omega)) (fun a q1 q2 => hJ a (by omega)) o1, ORad_k (fun r hr => g _ (by omega) (by omega)) hb (fun a q1 q2 => hJ a (by omega)) o2, OTel_k (fun a q1 q2 => g a (by omega) (by omega)) hb (by rw [e]) (by rw [e]) o3, hH, hW, OWar_k (fun a q => g a (by omega) (by omega)) (by rw [e]) (hJ 58 (by omega)) (hJ 59 (by omega)) o6, OTru_k (g 64 (by omega) (by omega)) (g 139 (by omega) (by omega)) o7, OPos_k h65 (g 140 (by omega) (by omega)) (g 141 (by omega) (by omega)) (g 142 (by omega) (by omega)) (fun a q1 q2 => hJ a (by omega)) o8, OTap_k (by rw [g 95 (by omega) (by omega)]; exact ⟨rfl, rfl, rfl⟩) (g 96 (by omega) (by omega)) (g 118 (by omega) (by omega)) (by rw [e]; exact ⟨rfl, rfl, rfl⟩) o9, ONow_k (by rw [g 0 (by omega) (by omega)]) (by rw [g 0 (by omega) (by omega)]) (by rw [e]) (by rw [e]) o10, ORul_k (fun a q1 q2 => g a (by have := rA_c b; omega) (by have := rA_c b; omega)) o11⟩
