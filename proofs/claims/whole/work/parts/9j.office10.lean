/-! ===== StormOffice: soonIn; what was told of late ===== -/
theorem soo_no {I : AI} {f : Nat → Bool} {k : Nat} : ∀ n, (∀ s, s < n → hitN I (rchN (I 100 6) f s) k 96 = false) → sooN I f k n = 99
  | 0, _ => rfl
  | n + 1, h => by
    unfold sooN; rw [h n (by omega), Bool.false_and, if_neg (by decide)]; exact soo_no n (fun s hs => h s (by omega))
theorem soo_at {I : AI} {f : Nat → Bool} {k s0 : Nat} (hh : hitN I (rchN (I 100 6) f s0) k 96 = true) (hno : ∀ s, s < s0 → hitN I (rchN (I 100 6) f s) k 96 = false) : ∀ n, s0 < n → n ≤ 13 → sooN I f k n = nI s0
  | 0, h, _ => by omega
  | n + 1, h, h13 => by
    unfold sooN
    by_cases e : n = s0
    · subst e
      rw [soo_no n hno, hh, Bool.true_and, if_pos (decide_eq_true (show nI n < 99 from nI_lt (a := n) (b := 99) (by omega) (by decide)))]
    · have hs : s0 < n := by omega
      rw [soo_at hh hno n hs (by omega), decide_eq_false (nI_nlt (by omega) (by omega)), Bool.and_false, if_neg (by decide)]
theorem hit_c {I : AI} {fr : Nat → Bool} {k : Nat} : hitN I fr k 96 = decide (0 < cnt (fun x => fr x && cyB I k x) 96) := by
  rw [Bool.eq_iff_iff, decide_eq_true_iff]
  constructor
  · intro h
    refine Nat.pos_of_ne_zero fun q => ?_
    have z := cnt_z.mp q
    unfold hitN at h
    rw [List.any_eq_true] at h
    obtain ⟨x, hx, hq⟩ := h
    have := z x (List.mem_range.mp hx)
    rw [hq] at this; cases this
  · intro h
    cases q : hitN I fr k 96 with
    | true => rfl
    | false =>
      have : cnt (fun x => fr x && cyB I k x) 96 = 0 := cnt_z.mpr fun x hx => by
        unfold hitN at q
        rw [List.any_eq_false] at q
        cases e : (fr x && cyB I k x) with
        | false => rfl
        | true => exact absurd e (q x (List.mem_range.mpr hx))
      omega
theorem lp_soon (γ : GE) {b c : Bool} {I : AI} {J : AJ} {m : Int32} (em : I 37 6 = m) (em6 : I 100 6 = m) {M : Nat} (hM5 : M < 512) (eM : m = nI M) {k : Nat} (hk8 : k < 8) (hck : cs J (8 + k) (cyB I k)) {f : Nat → Bool} : ∀ (j s : Nat) (J0 : AJ), s + j = 13 → kJ [77] J J0 → cs J0 77 (rchN m f s) → (∀ q, q < s → hitN I (rchN (I 100 6) f q) k 96 = false) → Rj γ mX11_soonIn 2 0 0 (fun rt S' I' J' => some (.int (sooN I f k 13)) = rt ∧ (SS b c) = S' ∧ I = I' ∧ kJ [77] J J') (2, [some (.ref 0), some (.ref (8 + k)), some (.int (nI s))], [], (SS b c), I, J0, 0, 0) := by
  intro j
  induction j with
  | zero =>
    intro s J0 hj hk hc hno
    refine r_run okX11_soonIn 2 (cs := []) (σ' := (5, [some (.ref 0), some (.ref (8 + k)), some (.int (nI s))], [.int 12, .int (nI s)], (SS b c), I, J0, 0, 0)) rfl trivial ?_
    refine r_icmp okX11_soonIn rfl (fun (h5 : (12 : Int32) < (nI s)) => ?_) (fun (h5 : ¬ (12 : Int32) < (nI s)) => ?_)
    · refine r_run okX11_soonIn 1 (cs := []) (σ' := (43, [some (.ref 0), some (.ref (8 + k)), some (.int (nI s))], [.int 99], (SS b c), I, J0, 0, 0)) rfl trivial ?_
      refine r_iret okX11_soonIn rfl rfl rfl (Nat.le_refl _) (Nat.le_refl _) ?_
      have e : s = 13 := by omega
      subst e
      exact ⟨by rw [soo_no 13 hno], rfl, rfl, hk⟩
    · exact absurd (nI_lt (a := 12) (b := s) (by omega) (by omega)) h5
  | succ j ih =>
    intro s J0 hj hk hc hno
    refine r_run okX11_soonIn 2 (cs := []) (σ' := (5, [some (.ref 0), some (.ref (8 + k)), some (.int (nI s))], [.int 12, .int (nI s)], (SS b c), I, J0, 0, 0)) rfl trivial ?_
    refine r_icmp okX11_soonIn rfl (fun (h5 : (12 : Int32) < (nI s)) => ?_) (fun (h5 : ¬ (12 : Int32) < (nI s)) => ?_)
    · exact absurd h5 (nI_nlt (a := 12) (b := s) (by omega) (by omega))
    · refine r_run okX11_soonIn 3 (cs := []) (σ' := (13, [some (.ref 0), some (.ref (8 + k)), some (.int (nI s))], [.ref (8 + k), .ref 77], (SS b c), I, J0, 0, 0)) rfl trivial ?_
      refine r_callV okX11_soonIn okX0_sizeWith [.ref (8 + k)] [] 77 rfl rfl rfl kkX0_sizeWith rfl rfl (by decide) rfl rfl rfl (by decide) ⟨Nat.le_refl _, Nat.le_refl _⟩ (Nat.le_of_ble_eq_true rfl) (a_with γ rfl hc (SSm hk8) (cs_k (hk _ (by simp; omega)) hck)) (fun v1 S1 I1 J1 hp => ?_)
      obtain ⟨rfl, rfl, rfl, rfl⟩ := hp
      show Rj _ _ _ _ _ _ (16, [some (.ref 0), some (.ref (8 + k)), some (.int (nI s))], [.int (nI (cnt (fun xx => (rchN m f s) xx && (cyB I k) xx) 96))], (SS b c), I, J0, 0, 0)
      refine r_ifc okX11_soonIn rfl (fun (h16 : (nI (cnt (fun xx => (rchN m f s) xx && (cyB I k) xx) 96)) ≤ (0 : Int32)) => ?_) (fun (h16 : ¬ (nI (cnt (fun xx => (rchN m f s) xx && (cyB I k) xx) 96)) ≤ (0 : Int32)) => ?_)
      · refine r_run okX11_soonIn 4 (cs := []) (σ' := (29, [some (.ref 0), some (.ref (8 + k)), some (.int (nI s))], [.ref 37, .ref 77], (SS b c), I, J0, 0, 0)) rfl trivial ?_
        refine r_callV okX11_soonIn okX1_moves [] [.ref 77] 37 rfl rfl rfl kkX1_moves rfl rfl (by decide) rfl rfl rfl (by decide) ⟨Nat.le_refl _, Nat.le_refl _⟩ (Nat.le_of_ble_eq_true rfl) (o_moves γ) (fun v1 S1 I1 J1 hp => ?_)
        obtain ⟨rfl, rfl, rfl, rfl⟩ := hp
        show Rj _ _ _ _ _ _ (32, [some (.ref 0), some (.ref (8 + k)), some (.int (nI s))], [.int (I 37 6), .ref 77], (SS b c), I, J0, 0, 0)
        simp only [em]
        show Rj _ _ _ _ _ _ (32, [some (.ref 0), some (.ref (8 + k)), some (.int (nI s))], [.int m, .ref 77], (SS b c), I, J0, 0, 0)
        refine r_callV okX11_soonIn okX0_spread [.int m] [] 77 rfl rfl rfl kkX0_spread rfl rfl (by decide) rfl rfl rfl (by decide) ⟨Nat.le_refl _, Nat.le_refl _⟩ (Nat.le_of_ble_eq_true rfl) (a_spread γ rfl hc hM5 eM) (fun v1 S1 I1 J1 hp => ?_)
        obtain ⟨rfl, rfl, rfl, J1, rfl, k1, c1⟩ := hp
        show Rj _ _ _ _ _ _ (35, [some (.ref 0), some (.ref (8 + k)), some (.int (nI s))], [], (SS b c), I, J1, 0, 0)
        refine r_run okX11_soonIn 2 (cs := []) (σ' := (2, [some (.ref 0), some (.ref (8 + k)), some (.int ((nI s) + 1))], [], (SS b c), I, J1, 0, 0)) rfl trivial ?_
        rw [nI_eq1]
        refine ih (s + 1) J1 (by omega) (kJ_t hk k1) c1 (fun q hq => ?_)
        by_cases e : q = s
        · subst e; rw [hit_c, em6]
          refine decide_eq_false fun z => absurd h16 (Int32.not_le.mpr (nI_lt (a := 0) z (by have := @cnt_le (fun x => rchN m f q x && cyB I k x) 96; omega)))
        · exact hno q (by omega)
      · refine r_run okX11_soonIn 1 (cs := []) (σ' := (20, [some (.ref 0), some (.ref (8 + k)), some (.int (nI s))], [.int (nI s)], (SS b c), I, J0, 0, 0)) rfl trivial ?_
        refine r_iret okX11_soonIn rfl rfl rfl (Nat.le_refl _) (Nat.le_refl _) ?_
        have hh : hitN I (rchN (I 100 6) f s) k 96 = true := by
          rw [hit_c, em6]; refine decide_eq_true (Nat.pos_of_ne_zero fun q => h16 ?_)
          rw [q]; decide
        exact ⟨by rw [soo_at hh hno 13 (by omega) (Nat.le_refl _)], rfl, rfl, hk⟩
theorem o_soonIn (γ : GE) {b c : Bool} {I : AI} {J : AJ} {m : Int32} (em : I 37 6 = m) (em6 : I 100 6 = m) {M : Nat} (hM5 : M < 512) (eM : m = nI M) {k : Nat} (hk8 : k < 8) (hck : cs J (8 + k) (cyB I k)) {f : Nat → Bool} (hc : cs J 77 f) : Ct γ mX11_soonIn 2 0 0 [.ref 0, .ref (8 + k)] (SS b c) I J (fun rt S' I' J' => some (.int (sooN I f k 13)) = rt ∧ (SS b c) = S' ∧ I = I' ∧ kJ [77] J J') := by
  refine ct_of okX11_soonIn (L := [some (.ref 0), some (.ref (8 + k)), none]) (Nat.le_of_ble_eq_true rfl) rfl ?_
  refine r_run okX11_soonIn 2 (cs := []) (σ' := (2, [some (.ref 0), some (.ref (8 + k)), some (.int 0)], [], (SS b c), I, J, 0, 0)) rfl trivial ?_
  exact lp_soon γ em em6 hM5 eM hk8 hck 13 0 J (by omega) kJ_r hc (fun q hq => by omega)
theorem cnt_sum {f g h : Nat → Bool} : ∀ {n : Nat}, (∀ i, i < n → (if f i then 1 else 0) = (if g i then 1 else 0) + (if h i then 1 else 0 : Nat)) → cnt f n = cnt g n + cnt h n
  | 0, _ => rfl
  | n + 1, q => by
    unfold cnt
    rw [cnt_sum (fun i hi => q i (by omega)), q n (by omega)]; omega
/-- told for a minute of t .. t + j - 1 -/
def rgB (I : AI) (s : Int32) (f : Nat → Bool) (t j i : Nat) : Bool := decide (t ≤ nv (I 112 i) ∧ nv (I 112 i) < t + j) && (decide (srt (I 110 i) = s) && f (nv (I 113 i)))
theorem sC_eq {I : AI} {s : Int32} {f : Nat → Bool} {n : Nat} (hr : ∀ i, i < n → rg 720 (I 112 i)) : ∀ j t, t + j < 2000 → sC I s f n j t = cnt (rgB I s f t j) n
  | 0, t, _ => by
    unfold sC; refine (cnt_0 fun i _ => ?_).symm
    unfold rgB; rw [decide_eq_false (by omega)]; rfl
  | j + 1, t, h => by
    unfold sC; rw [sC_eq hr j (t + 1) (by omega)]
    refine (cnt_sum fun i hi => ?_).symm
    obtain ⟨a, ha, ea⟩ := hr i hi
    unfold rgB rcB
    rw [ea, nv_nI (by omega)]
    have e1 : decide (nI a = nI t) = decide (a = t) := by
      by_cases q : a = t
      · subst q; rw [decide_eq_true rfl, decide_eq_true rfl]
      · rw [decide_eq_false q, decide_eq_false fun z => q (nI_inj (by omega) (by omega) z)]
    rw [e1]
    cases (decide (srt (I 110 i) = s) && f (nv (I 113 i))) with
    | false => simp
    | true =>
      simp only [Bool.and_true, decide_eq_true_eq]
      by_cases q : a = t
      · rw [if_pos (by omega), if_pos q, if_neg (by omega)]
      · by_cases z : t + 1 ≤ a ∧ a < t + 1 + j
        · rw [if_pos (by omega), if_neg q, if_pos z]
        · rw [if_neg (by omega), if_neg q, if_neg z]
