/-! ===== StormOffice: fillAnswers ===== -/
def FA (I M : AI) (J : AJ) (t : Nat) : Prop := HBs I J ∧ OHea I J ∧ OWarG I M J ∧ MWar M ∧ WDis M ∧ t < 720 ∧ I 0 15 = nI t ∧ M 100 5 = nI t ∧ (∀ k, k < 8 → cs J (8 + k) (cyB I k))
theorem OWarG_k {I I' M : AI} {J J' : AJ} (h : ∀ a, 52 ≤ a → a ≤ 61 → I' a = I a) (hJ8 : J' 58 = J 58) (hJ9 : J' 59 = J 59) (hO : OWarG I M J) : OWarG I' M J' := by
  refine ⟨by rw [h 52 (by omega) (by omega)]; exact hO.1, fun w hw => ?_, fun k hk => ?_⟩
  · rw [h 53 (by omega) (by omega), h 54 (by omega) (by omega), h 55 (by omega) (by omega), h 56 (by omega) (by omega), h 57 (by omega) (by omega), hJ8, hJ9]; exact hO.2.1 w hw
  · rw [h 60 (by omega) (by omega), h 61 (by omega) (by omega)]; exact hO.2.2 k hk
theorem k3_ne {I I' : AI} (h : kI [37, 76] I I') {a : Nat} (h1 : ¬ a = 37) (h2 : ¬ a = 76) : I' a = I a := h a (by simp; exact ⟨h1, h2⟩)
theorem HBs_3 {I I' : AI} {J J' : AJ} (h : kI [37, 76] I I') (hJ : kJ [38, 39, 40, 41, 77] J J') (hB : HBs I J) : HBs I' J' := by
  have e := k3_ne h (a := 100) (by decide) (by decide)
  have hb : ∀ a, 105 ≤ a → a ≤ 115 → I' a = I a := fun a q1 q2 => k3_ne h (by omega) (by omega)
  exact ⟨OTel_k (fun a q1 q2 => k3_ne h (by omega) (by omega)) hb (by rw [e]) (by rw [e]) hB.1, MTel_k hb (by rw [e]) hB.2.1, MRad_k hb hB.2.2.1, ORad_k (fun r hr => k3_ne h (by omega) (by omega)) hb (fun a q1 q2 => hJ a (by simp; omega)) hB.2.2.2.1, by rw [e]; exact hB.2.2.2.2.1, by rw [e]; exact hB.2.2.2.2.2⟩
theorem cyB_e {I I' : AI} (h : I' 101 = I 101) (k : Nat) : cyB I' k = cyB I k := by funext x; unfold cyB; rw [h]
/-- only answers and the heart's cache have changed -/
theorem FA_k {I I' M : AI} {J J' : AJ} {t : Nat} (h : kI [37, 76] I I') (hJ : kJ [38, 39, 40, 41, 77] J J') (hH : OHea I' J') (hF : FA I M J t) : FA I' M J' t := by
  obtain ⟨a1, a2, a3, a4, a5, a6, a7, a8, a9⟩ := hF
  exact ⟨HBs_3 h hJ a1, hH, OWarG_k (fun a q1 q2 => k3_ne h (by omega) (by omega)) (hJ 58 (by decide)) (hJ 59 (by decide)) a3, a4, a5, a6, by rw [k3_ne h (by decide) (by decide)]; exact a7, a8, fun k hk => by rw [cyB_e (k3_ne h (by decide) (by decide))]; exact cs_k (hJ _ (by simp; omega)) (a9 k hk)⟩
theorem FA_u {I M : AI} {J : AJ} {t q : Nat} {v : Int32} (hF : FA I M J t) : FA (upI I 76 q v) M J t :=
  FA_k (kI_up (by decide)) kJ_r (OHea_k (upI_ne (by decide)) (fun a q1 q2 => upI_ne (by omega)) (by rw [upI_ne (by decide)]) (by rw [upI_ne (by decide)]) (by rw [upI_ne (by decide)]) rfl rfl hF.2.1) hF
/-- the answers -/
def aN (I M : AI) (t k : Nat) : Nat → Int32
  | 0 => nI (sC I 0 (cyB I k) (nv (I 100 13)) (t + 1 - (t - 9)) (t - 9))
  | 1 => nI (sC I 1 (cyB I k) (nv (I 100 13)) (t + 1 - (t - 9)) (t - 9))
  | 2 => nI (sC I 2 (cyB I k) (nv (I 100 13)) (t + 1 - (t - 9)) (t - 9))
  | 3 => nI (cnt (fun x => mayK I (nv (I 100 13)) t x && cyB I k x) 96)
  | 4 => sooN I (mayK I (nv (I 100 13)) t) k 13
  | 5 => I 6 k
  | 6 => lefV M (nI k)
  | 7 => M 133 k
  | _ => nI t / 60
theorem f_rec (γ : GE) {b c : Bool} {I M : AI} {J : AJ} {t k : Nat} (hk : k < 8) (hF : FA I M J t) (s : Int32) {X : Int32} (eX : X = I 0 15) : Ct γ mX7_recentIn 1 0 0 [.ref 29, .ref (8 + k), .int s, .int X] (SS b c) I J (rI (nI (sC I s (cyB I k) (nv (I 100 13)) (t + 1 - (t - 9)) (t - 9))) (SS b c) I J) := by
  subst eX; rw [hF.2.2.2.2.2.2.1]
  exact o_recentIn γ hF.1.1 hF.1.2.1 (SSm hk) (hF.2.2.2.2.2.2.2.2 k hk) s hF.2.2.2.2.2.1
theorem f_loc (γ : GE) {b c : Bool} {I M : AI} {J : AJ} {t : Nat} (hF : FA I M J t) {X : Int32} (eX : X = I 0 15) : Ct γ mX1_locate 4 0 0 [.ref 37, .int X, .int (I 100 13), .ref 77] (SS b c) I J (fun rt S' I' J' => none = rt ∧ (SS b c) = S' ∧ LoP I J (mayK I (nv (I 100 13)) t) I' J') := by
  subst eX
  exact o_locX γ (t := t) (kn := nv (I 100 13)) hF.2.2.2.2.2.1 (rg_nv hF.1.2.1.1 (by decide)).1 hF.1 hF.2.1 hF.2.2.2.2.2.2.1 (rg_nv hF.1.2.1.1 (by decide)).2
theorem f_soon (γ : GE) {b c : Bool} {I M : AI} {J : AJ} {t k : Nat} (hk : k < 8) (hF : FA I M J t) {f : Nat → Bool} (hc : cs J 77 f) : Ct γ mX11_soonIn 2 0 0 [.ref 0, .ref (8 + k)] (SS b c) I J (fun rt S' I' J' => some (.int (sooN I f k 13)) = rt ∧ (SS b c) = S' ∧ I = I' ∧ kJ [77] J J') :=
  o_soonIn γ hF.2.1.1 rfl (rg_nv hF.1.2.2.2.2.1 (by decide)).1 (rg_nv hF.1.2.2.2.2.1 (by decide)).2 hk (hF.2.2.2.2.2.2.2.2 k hk) hc
theorem f_left (γ : GE) {b c : Bool} {I M : AI} {J : AJ} {t k : Nat} (hk : k < 8) (hF : FA I M J t) {X : Int32} (eX : X = I 0 15) : Ct γ mX10_left 1 0 0 [.ref 52, .int (nI k), .int X] (SS b c) I J (rI (lefV M (nI k)) (SS b c) I J) :=
  g_left γ hF.2.2.1 hF.2.2.2.1 hF.2.2.2.2.1 hk (eX.trans (hF.2.2.2.2.2.2.1.trans hF.2.2.2.2.2.2.2.1.symm))
theorem f_ears (γ : GE) {b c : Bool} {I M : AI} {J : AJ} {t k : Nat} (hk : k < 8) (hF : FA I M J t) : Ct γ mX10_earsOf 0 0 0 [.ref 52, .int (nI k)] (SS b c) I J (rI (M 133 k) (SS b c) I J) := g_earsOf γ hF.2.2.1 hF.2.2.2.1 hk
