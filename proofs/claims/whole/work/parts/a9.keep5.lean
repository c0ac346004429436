/-! ===== what holds is kept: rules; pairs of calls that change the state ===== -/
theorem MRul_q {X Y : AI} {ls : List Ln} (h : fr qU X Y) (hR : MRul X ls) : MRul Y ls := by
  have hL : ∀ a k, (a = 120 ∨ a = 121 ∨ a = 122 ∨ a = 123) → k < 16 → Y a k = X a k := fun a k ha hk => h a k (by
    have hb : Nat.ble 16 k = false := by cases e : Nat.ble 16 k with
      | false => rfl
      | true => have := Nat.le_of_ble_eq_true e; omega
    rcases ha with rfl | rfl | rfl | rfl <;> (unfold qU qR; rw [hb]; rfl))
  have hC : ∀ a k, (a = 124 ∨ a = 125) → k < 900 → Y a k = X a k := fun a k ha hk => h a k (by
    have hb : Nat.ble 900 k = false := by cases e : Nat.ble 900 k with
      | false => rfl
      | true => have := Nat.le_of_ble_eq_true e; omega
    rcases ha with rfl | rfl <;> (unfold qU qR qP qE; rw [hb]; rfl))
  refine ⟨hR.1, (h 100 29 rfl).trans hR.2.1, fun k q hq => ⟨?_, (hR.2.2 k q hq).2⟩⟩
  have hk : k < 16 := by
    have := (List.getElem?_eq_some_iff.mp hq).1; have := hR.1; omega
  obtain ⟨f, w, e, a1, a2, a3, a4, a5, a6, a7, a8, a9⟩ := (hR.2.2 k q hq).1
  refine ⟨f, w, e, a1, a2, a3, (hL 120 k (Or.inl rfl) hk).trans a4, (hL 121 k (Or.inr (Or.inl rfl)) hk).trans a5, (hL 122 k (Or.inr (Or.inr (Or.inl rfl))) hk).trans a6, (hL 123 k (Or.inr (Or.inr (Or.inr rfl))) hk).trans a7, ?_, ?_⟩
  · exact cdA_lt (q := 900) (fun b hb => hC 124 b (Or.inl rfl) hb) (fun b hb => hC 125 b (Or.inr rfl) hb) (by omega) a8
  · exact cdA_lt (q := 900) (fun b hb => hC 124 b (Or.inl rfl) hb) (fun b hb => hC 125 b (Or.inr rfl) hb) (by omega) a9
theorem Inv_rulf79 {I I1 X : AI} {J : AJ} {ls : List Ln} (hV : Inv I J true ls) (h1 : fr qR79 I I1) (h2 : fr qU I1 X) (x95 : X 95 4 = 0) (x100 : X 100 23 = 0) (x8 : X 95 8 = X 100 42) (x9 : X 95 9 = X 100 43) : Inv X J true ls := by
  obtain ⟨⟨o1, o2, o3, o4, o5, o6, o7, o8, o9, o10, o11⟩, ⟨m0, m1, m2, m3, m4, m5, m6, m7, m8, m9, m10, m11, m12, m13, m14⟩, hE⟩ := id hV
  have g : ∀ a, a ≠ 95 ∧ ¬ (97 ≤ a ∧ a ≤ 100) ∧ ¬ (79 ≤ a ∧ a ≤ 85) ∧ ¬ (120 ≤ a ∧ a ≤ 126) → X a = I a := fun a w => funext fun k => by
    have w1 : qR79 a k = false := by
      unfold qR79
      have hb : (Nat.ble 79 a && Nat.ble a 85) = false := by
        cases e1 : Nat.ble 79 a with
        | false => rfl
        | true => cases e2 : Nat.ble a 85 with
          | false => rfl
          | true => have := Nat.le_of_ble_eq_true e1; have := Nat.le_of_ble_eq_true e2; omega
      rw [hb, show (a == 95) = false from beq_eq_false_iff_ne.mpr (by omega), show (a == 97) = false from beq_eq_false_iff_ne.mpr (by omega), show (a == 98) = false from beq_eq_false_iff_ne.mpr (by omega), show (a == 99) = false from beq_eq_false_iff_ne.mpr (by omega)]; rfl
    have w2 : qU a k = false := by
      have f : ∀ n, a ≠ n → (a == n) = false := fun n h => beq_eq_false_iff_ne.mpr h
      unfold qU  qR qP q4 qE qF 
      rw [f 100 (by omega), f 120 (by omega), f 121 (by omega), f 122 (by omega), f 123 (by omega), f 124 (by omega), f 125 (by omega), f 126 (by omega)]; rfl
    exact (h2 a k w2).trans (h1 a k w1)
  have e : ∀ k, qU 100 k = false → X 100 k = I 100 k := fun k hk => (h2 100 k hk).trans (h1 100 k rfl)
  have hA : OTap X := ⟨by rw [x95, x100], by rw [g 96 (by omega), g 118 (by omega)]; exact o9.2.1, x8, x9⟩
  have hMT : MTape X := ⟨⟨0, by decide, x100⟩, by rw [g 118 (by omega)]; exact m11.2⟩
  have hMR : MRul X ls := MRul_q h2 (MRul_k (h1 100 29 rfl) (fr_c h1 120 (fun _ => rfl)) (fr_c h1 121 (fun _ => rfl)) (fr_c h1 122 (fun _ => rfl)) (fr_c h1 123 (fun _ => rfl)) (fr_c h1 124 (fun _ => rfl)) (fr_c h1 125 (fun _ => rfl)) m13)
  exact ⟨⟨OLand_k (fun a w => (g a (by omega))) (fun a w1 w2 => (rfl)) o1, ORad_k (fun r hr => (g _ (by omega))) (fun a w1 w2 => (g a (by omega))) (fun a w1 w2 => (rfl)) o2, OTel_k (fun a w1 w2 => (g a (by omega))) (fun a w1 w2 => (g a (by omega))) (e 13 rfl) (e 5 rfl) o3, OHea_k (g 37 (by omega)) (fun a w1 w2 => (g a (by omega))) (e 6 rfl) (e 7 rfl) (e 13 rfl) (rfl) (rfl) o4, OWal_k (by rw [g 42 (by omega)]) (g 47 (by omega)) (g 48 (by omega)) o5, OWar_k (fun a w => (g a (by omega))) (e 45 rfl) (rfl) (rfl) o6, OTru_k (g 64 (by omega)) (g 139 (by omega)) o7, OPos_k (by rw [g 65 (by omega)]) (g 140 (by omega)) (g 141 (by omega)) (g 142 (by omega)) (fun a w1 w2 => (rfl)) o8, hA, ONow_k (congrFun (g 0 (by omega)) 15) (congrFun (g 0 (by omega)) 14) (e 5 rfl) (e 44 rfl) o10, ORul_k (fun a w1 w2 => g a (by have : rA true = 87 := rfl; omega)) o11⟩, ⟨(e 0 rfl).trans m0, MLand_k (fun a w1 w2 => (g a (by omega))) m1, MRad_k (fun a w1 w2 => (g a (by omega))) m2, MTel_k (fun a w1 w2 => (g a (by omega))) (e 13 rfl) m3, (by rw [e 5 rfl]; exact m4), (by rw [e 7 rfl]; exact m5), (by rw [e 6 rfl]; exact m6), MWar_k (fun a w1 w2 => (g a (by omega))) (e 45 rfl) (e 5 rfl) m7, WDis_k (fun a w1 w2 => (g a (by omega))) (e 45 rfl) (e 5 rfl) m8, (by unfold MTru; rw [g 139 (by omega)]; exact m9), (by unfold MPos; rw [g 140 (by omega), g 141 (by omega), g 142 (by omega)]; exact m10), hMT, MWds_k (g 119 (by omega)) m12, hMR, (by rw [e 44 rfl]; exact m14)⟩, (fun k hk => by rw [g 133 (by omega)]; exact hE k hk)⟩
theorem Inv_ruls79 {I I1 X : AI} {J : AJ} {ls ls2 : List Ln} (hV : Inv I J true ls) (h1 : fr qR79 I I1) (h2 : fr qV I1 X) (x95 : X 95 4 = 0) (x100 : X 100 23 = 0) (x8 : X 95 8 = X 100 42) (x9 : X 95 9 = X 100 43) (hMR : MRul X ls2) (hOR : ORul X (rA false) ls2) : Inv X J false ls2 := by
  obtain ⟨⟨o1, o2, o3, o4, o5, o6, o7, o8, o9, o10, o11⟩, ⟨m0, m1, m2, m3, m4, m5, m6, m7, m8, m9, m10, m11, m12, m13, m14⟩, hE⟩ := id hV
  have g : ∀ a, a ≠ 95 ∧ ¬ (97 ≤ a ∧ a ≤ 100) ∧ ¬ (79 ≤ a ∧ a ≤ 85) ∧ ¬ (120 ≤ a ∧ a ≤ 126) → X a = I a := fun a w => funext fun k => by
    have w1 : qR79 a k = false := by
      unfold qR79
      have hb : (Nat.ble 79 a && Nat.ble a 85) = false := by
        cases e1 : Nat.ble 79 a with
        | false => rfl
        | true => cases e2 : Nat.ble a 85 with
          | false => rfl
          | true => have := Nat.le_of_ble_eq_true e1; have := Nat.le_of_ble_eq_true e2; omega
      rw [hb, show (a == 95) = false from beq_eq_false_iff_ne.mpr (by omega), show (a == 97) = false from beq_eq_false_iff_ne.mpr (by omega), show (a == 98) = false from beq_eq_false_iff_ne.mpr (by omega), show (a == 99) = false from beq_eq_false_iff_ne.mpr (by omega)]; rfl
    have w2 : qV a k = false := by
      have f : ∀ n, a ≠ n → (a == n) = false := fun n h => beq_eq_false_iff_ne.mpr h
      unfold qV qU qR qP q4 qE qF isL isK
      rw [f 100 (by omega), f 120 (by omega), f 121 (by omega), f 122 (by omega), f 123 (by omega), f 124 (by omega), f 125 (by omega), f 126 (by omega)]; rfl
    exact (h2 a k w2).trans (h1 a k w1)
  have e : ∀ k, qV 100 k = false → X 100 k = I 100 k := fun k hk => (h2 100 k hk).trans (h1 100 k rfl)
  have hA : OTap X := ⟨by rw [x95, x100], by rw [g 96 (by omega), g 118 (by omega)]; exact o9.2.1, x8, x9⟩
  have hMT : MTape X := ⟨⟨0, by decide, x100⟩, by rw [g 118 (by omega)]; exact m11.2⟩
  exact ⟨⟨OLand_k (fun a w => (g a (by omega))) (fun a w1 w2 => (rfl)) o1, ORad_k (fun r hr => (g _ (by omega))) (fun a w1 w2 => (g a (by omega))) (fun a w1 w2 => (rfl)) o2, OTel_k (fun a w1 w2 => (g a (by omega))) (fun a w1 w2 => (g a (by omega))) (e 13 rfl) (e 5 rfl) o3, OHea_k (g 37 (by omega)) (fun a w1 w2 => (g a (by omega))) (e 6 rfl) (e 7 rfl) (e 13 rfl) (rfl) (rfl) o4, OWal_k (by rw [g 42 (by omega)]) (g 47 (by omega)) (g 48 (by omega)) o5, OWar_k (fun a w => (g a (by omega))) (e 45 rfl) (rfl) (rfl) o6, OTru_k (g 64 (by omega)) (g 139 (by omega)) o7, OPos_k (by rw [g 65 (by omega)]) (g 140 (by omega)) (g 141 (by omega)) (g 142 (by omega)) (fun a w1 w2 => (rfl)) o8, hA, ONow_k (congrFun (g 0 (by omega)) 15) (congrFun (g 0 (by omega)) 14) (e 5 rfl) (e 44 rfl) o10, hOR⟩, ⟨(e 0 rfl).trans m0, MLand_k (fun a w1 w2 => (g a (by omega))) m1, MRad_k (fun a w1 w2 => (g a (by omega))) m2, MTel_k (fun a w1 w2 => (g a (by omega))) (e 13 rfl) m3, (by rw [e 5 rfl]; exact m4), (by rw [e 7 rfl]; exact m5), (by rw [e 6 rfl]; exact m6), MWar_k (fun a w1 w2 => (g a (by omega))) (e 45 rfl) (e 5 rfl) m7, WDis_k (fun a w1 w2 => (g a (by omega))) (e 45 rfl) (e 5 rfl) m8, (by unfold MTru; rw [g 139 (by omega)]; exact m9), (by unfold MPos; rw [g 140 (by omega), g 141 (by omega), g 142 (by omega)]; exact m10), hMT, MWds_k (g 119 (by omega)) m12, hMR, (by rw [e 44 rfl]; exact m14)⟩, (fun k hk => by rw [g 133 (by omega)]; exact hE k hk)⟩
theorem Inv_rulf87 {I I1 X : AI} {J : AJ} {ls : List Ln} (hV : Inv I J false ls) (h1 : fr qR87 I I1) (h2 : fr qU I1 X) (x95 : X 95 4 = 0) (x100 : X 100 23 = 0) (x8 : X 95 8 = X 100 42) (x9 : X 95 9 = X 100 43) : Inv X J false ls := by
  obtain ⟨⟨o1, o2, o3, o4, o5, o6, o7, o8, o9, o10, o11⟩, ⟨m0, m1, m2, m3, m4, m5, m6, m7, m8, m9, m10, m11, m12, m13, m14⟩, hE⟩ := id hV
  have g : ∀ a, a ≠ 95 ∧ ¬ (97 ≤ a ∧ a ≤ 100) ∧ ¬ (87 ≤ a ∧ a ≤ 93) ∧ ¬ (120 ≤ a ∧ a ≤ 126) → X a = I a := fun a w => funext fun k => by
    have w1 : qR87 a k = false := by
      unfold qR87
      have hb : (Nat.ble 87 a && Nat.ble a 93) = false := by
        cases e1 : Nat.ble 87 a with
        | false => rfl
        | true => cases e2 : Nat.ble a 93 with
          | false => rfl
          | true => have := Nat.le_of_ble_eq_true e1; have := Nat.le_of_ble_eq_true e2; omega
      rw [hb, show (a == 95) = false from beq_eq_false_iff_ne.mpr (by omega), show (a == 97) = false from beq_eq_false_iff_ne.mpr (by omega), show (a == 98) = false from beq_eq_false_iff_ne.mpr (by omega), show (a == 99) = false from beq_eq_false_iff_ne.mpr (by omega)]; rfl
    have w2 : qU a k = false := by
      have f : ∀ n, a ≠ n → (a == n) = false := fun n h => beq_eq_false_iff_ne.mpr h
      unfold qU  qR qP q4 qE qF 
      rw [f 100 (by omega), f 120 (by omega), f 121 (by omega), f 122 (by omega), f 123 (by omega), f 124 (by omega), f 125 (by omega), f 126 (by omega)]; rfl
    exact (h2 a k w2).trans (h1 a k w1)
  have e : ∀ k, qU 100 k = false → X 100 k = I 100 k := fun k hk => (h2 100 k hk).trans (h1 100 k rfl)
  have hA : OTap X := ⟨by rw [x95, x100], by rw [g 96 (by omega), g 118 (by omega)]; exact o9.2.1, x8, x9⟩
  have hMT : MTape X := ⟨⟨0, by decide, x100⟩, by rw [g 118 (by omega)]; exact m11.2⟩
  have hMR : MRul X ls := MRul_q h2 (MRul_k (h1 100 29 rfl) (fr_c h1 120 (fun _ => rfl)) (fr_c h1 121 (fun _ => rfl)) (fr_c h1 122 (fun _ => rfl)) (fr_c h1 123 (fun _ => rfl)) (fr_c h1 124 (fun _ => rfl)) (fr_c h1 125 (fun _ => rfl)) m13)
  exact ⟨⟨OLand_k (fun a w => (g a (by omega))) (fun a w1 w2 => (rfl)) o1, ORad_k (fun r hr => (g _ (by omega))) (fun a w1 w2 => (g a (by omega))) (fun a w1 w2 => (rfl)) o2, OTel_k (fun a w1 w2 => (g a (by omega))) (fun a w1 w2 => (g a (by omega))) (e 13 rfl) (e 5 rfl) o3, OHea_k (g 37 (by omega)) (fun a w1 w2 => (g a (by omega))) (e 6 rfl) (e 7 rfl) (e 13 rfl) (rfl) (rfl) o4, OWal_k (by rw [g 42 (by omega)]) (g 47 (by omega)) (g 48 (by omega)) o5, OWar_k (fun a w => (g a (by omega))) (e 45 rfl) (rfl) (rfl) o6, OTru_k (g 64 (by omega)) (g 139 (by omega)) o7, OPos_k (by rw [g 65 (by omega)]) (g 140 (by omega)) (g 141 (by omega)) (g 142 (by omega)) (fun a w1 w2 => (rfl)) o8, hA, ONow_k (congrFun (g 0 (by omega)) 15) (congrFun (g 0 (by omega)) 14) (e 5 rfl) (e 44 rfl) o10, ORul_k (fun a w1 w2 => g a (by have : rA false = 79 := rfl; omega)) o11⟩, ⟨(e 0 rfl).trans m0, MLand_k (fun a w1 w2 => (g a (by omega))) m1, MRad_k (fun a w1 w2 => (g a (by omega))) m2, MTel_k (fun a w1 w2 => (g a (by omega))) (e 13 rfl) m3, (by rw [e 5 rfl]; exact m4), (by rw [e 7 rfl]; exact m5), (by rw [e 6 rfl]; exact m6), MWar_k (fun a w1 w2 => (g a (by omega))) (e 45 rfl) (e 5 rfl) m7, WDis_k (fun a w1 w2 => (g a (by omega))) (e 45 rfl) (e 5 rfl) m8, (by unfold MTru; rw [g 139 (by omega)]; exact m9), (by unfold MPos; rw [g 140 (by omega), g 141 (by omega), g 142 (by omega)]; exact m10), hMT, MWds_k (g 119 (by omega)) m12, hMR, (by rw [e 44 rfl]; exact m14)⟩, (fun k hk => by rw [g 133 (by omega)]; exact hE k hk)⟩
theorem Inv_ruls87 {I I1 X : AI} {J : AJ} {ls ls2 : List Ln} (hV : Inv I J false ls) (h1 : fr qR87 I I1) (h2 : fr qV I1 X) (x95 : X 95 4 = 0) (x100 : X 100 23 = 0) (x8 : X 95 8 = X 100 42) (x9 : X 95 9 = X 100 43) (hMR : MRul X ls2) (hOR : ORul X (rA true) ls2) : Inv X J true ls2 := by
  obtain ⟨⟨o1, o2, o3, o4, o5, o6, o7, o8, o9, o10, o11⟩, ⟨m0, m1, m2, m3, m4, m5, m6, m7, m8, m9, m10, m11, m12, m13, m14⟩, hE⟩ := id hV
  have g : ∀ a, a ≠ 95 ∧ ¬ (97 ≤ a ∧ a ≤ 100) ∧ ¬ (87 ≤ a ∧ a ≤ 93) ∧ ¬ (120 ≤ a ∧ a ≤ 126) → X a = I a := fun a w => funext fun k => by
    have w1 : qR87 a k = false := by
      unfold qR87
      have hb : (Nat.ble 87 a && Nat.ble a 93) = false := by
        cases e1 : Nat.ble 87 a with
        | false => rfl
        | true => cases e2 : Nat.ble a 93 with
          | false => rfl
          | true => have := Nat.le_of_ble_eq_true e1; have := Nat.le_of_ble_eq_true e2; omega
      rw [hb, show (a == 95) = false from beq_eq_false_iff_ne.mpr (by omega), show (a == 97) = false from beq_eq_false_iff_ne.mpr (by omega), show (a == 98) = false from beq_eq_false_iff_ne.mpr (by omega), show (a == 99) = false from beq_eq_false_iff_ne.mpr (by omega)]; rfl
    have w2 : qV a k = false := by
      have f : ∀ n, a ≠ n → (a == n) = false := fun n h => beq_eq_false_iff_ne.mpr h
      unfold qV qU qR qP q4 qE qF isL isK
      rw [f 100 (by omega), f 120 (by omega), f 121 (by omega), f 122 (by omega), f 123 (by omega), f 124 (by omega), f 125 (by omega), f 126 (by omega)]; rfl
    exact (h2 a k w2).trans (h1 a k w1)
  have e : ∀ k, qV 100 k = false → X 100 k = I 100 k := fun k hk => (h2 100 k hk).trans (h1 100 k rfl)
  have hA : OTap X := ⟨by rw [x95, x100], by rw [g 96 (by omega), g 118 (by omega)]; exact o9.2.1, x8, x9⟩
  have hMT : MTape X := ⟨⟨0, by decide, x100⟩, by rw [g 118 (by omega)]; exact m11.2⟩
  exact ⟨⟨OLand_k (fun a w => (g a (by omega))) (fun a w1 w2 => (rfl)) o1, ORad_k (fun r hr => (g _ (by omega))) (fun a w1 w2 => (g a (by omega))) (fun a w1 w2 => (rfl)) o2, OTel_k (fun a w1 w2 => (g a (by omega))) (fun a w1 w2 => (g a (by omega))) (e 13 rfl) (e 5 rfl) o3, OHea_k (g 37 (by omega)) (fun a w1 w2 => (g a (by omega))) (e 6 rfl) (e 7 rfl) (e 13 rfl) (rfl) (rfl) o4, OWal_k (by rw [g 42 (by omega)]) (g 47 (by omega)) (g 48 (by omega)) o5, OWar_k (fun a w => (g a (by omega))) (e 45 rfl) (rfl) (rfl) o6, OTru_k (g 64 (by omega)) (g 139 (by omega)) o7, OPos_k (by rw [g 65 (by omega)]) (g 140 (by omega)) (g 141 (by omega)) (g 142 (by omega)) (fun a w1 w2 => (rfl)) o8, hA, ONow_k (congrFun (g 0 (by omega)) 15) (congrFun (g 0 (by omega)) 14) (e 5 rfl) (e 44 rfl) o10, hOR⟩, ⟨(e 0 rfl).trans m0, MLand_k (fun a w1 w2 => (g a (by omega))) m1, MRad_k (fun a w1 w2 => (g a (by omega))) m2, MTel_k (fun a w1 w2 => (g a (by omega))) (e 13 rfl) m3, (by rw [e 5 rfl]; exact m4), (by rw [e 7 rfl]; exact m5), (by rw [e 6 rfl]; exact m6), MWar_k (fun a w1 w2 => (g a (by omega))) (e 45 rfl) (e 5 rfl) m7, WDis_k (fun a w1 w2 => (g a (by omega))) (e 45 rfl) (e 5 rfl) m8, (by unfold MTru; rw [g 139 (by omega)]; exact m9), (by unfold MPos; rw [g 140 (by omega), g 141 (by omega), g 142 (by omega)]; exact m10), hMT, MWds_k (g 119 (by omega)) m12, hMR, (by rw [e 44 rfl]; exact m14)⟩, (fun k hk => by rw [g 133 (by omega)]; exact hE k hk)⟩
