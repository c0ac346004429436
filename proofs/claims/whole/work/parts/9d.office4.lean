/-! ===== StormOffice: startWalks, paths, missed, box ===== -/
def SWP (I : AI) (J : AJ) (n : Nat) (I' : AI) (J' : AJ) : Prop := kI [37, 42, 47, 48] I I' ∧ OHea I' J' ∧ kJ [38, 39, 40, 41, 43, 77] J J' ∧ I' 42 10 = nI n ∧ I' 42 11 = I 100 6 ∧ TgOK I' (I 100 6) ∧ cs J' 43 (mayB I (I 100 5) (nv (I 100 5)))
def WkP (I : AI) (J : AJ) (I' : AI) (J' : AJ) : Prop := kI [37, 42, 47, 48, 51] I I' ∧ OHea I' J' ∧ OWal I' ∧ kJ [38, 39, 40, 41, 43, 44, 45, 46, 49, 50, 77] J J'
theorem swp_T {I I' : AI} {J J' : AJ} {n : Nat} (h : SWP I J n I' J') : TgOK I' (I' 100 6) := by rw [h.1 100 (by decide)]; exact h.2.2.2.2.2.1
theorem swp_L {I I' : AI} {J J' : AJ} {n : Nat} (h : SWP I J n I' J') (hL : OLd I) : OLd I' := fun x hx => by
  rw [h.1 2 (by decide), h.1 3 (by decide), h.1 4 (by decide), h.1 101 (by decide), h.1 102 (by decide), h.1 103 (by decide)]; exact hL x hx
theorem swp_M {I I' : AI} {J J' : AJ} {n : Nat} (h : SWP I J n I' J') (hM : MLand I) : MLand I' := fun x hx => by
  rw [h.1 101 (by decide), h.1 102 (by decide), h.1 103 (by decide), h.1 104 (by decide)]; exact hM x hx
theorem swp_C {I I' : AI} {J J' : AJ} {n : Nat} (h : SWP I J n I' J') (hC : OCr I) : OCr I' := fun k hk => by
  rw [h.1 6 (by decide), cwM_k (h.1 101 (by decide)) (h.1 102 (by decide))]; exact hC k hk
theorem swp_p {I I' : AI} {J J' : AJ} {n : Nat} (h : SWP I J n I' J') (z : Int32) (m : Nat) (F : Nat → Bool) : pthV I' z m F = pthV I z m F := pthV_kk (by rw [h.1 100 (by decide)]) (h.1 101 (by decide)) (h.1 102 (by decide)) z m F
theorem swp_w {I I1 I2 : AI} {J J1 J2 : AJ} {n : Nat} (h : SWP I J n I1 J1) (hI : kI [51] I1 I2) (hJ : kJ [44, 45, 46, 49, 50] J1 J2) : WkP I J I2 J2 := by
  refine ⟨kI_t (kI_m (by decide) h.1) (kI_m (by decide) hI), ?_, ?_, kJ_t (kJ_m (by decide) h.2.2.1) (kJ_m (by decide) hJ)⟩
  · exact OHea_k (hI 37 (by decide)) (fun a q1 q2 => hI a (fun z => by have := List.mem_singleton.mp z; omega)) (by rw [hI 100 (by decide)]) (by rw [hI 100 (by decide)]) (by rw [hI 100 (by decide)]) (hJ 38 (by decide)) (hJ 39 (by decide)) h.2.1
  · refine Or.inr (TgOK_k (hI 47 (by decide)) (hI 48 (by decide)) ?_)
    rw [hI 42 (by decide), h.2.2.2.2.1]; exact h.2.2.2.2.2.1
theorem now_kn {I : AI} (hO : OTel I) (t x : Nat) : mayK I (nv (I 100 13)) t x = mayB I (I 100 5) t x := mayK_eq (fun i hi => ⟨fun _ => (hO.2.2.2 i hi).1, fun _ => hi⟩) t x
theorem o_wbegX (γ : GE) {b c : Bool} {I : AI} {J : AJ} {m N : Int32} (h0 : ¬ m = 0) {n : Nat} (eN : N = nI n) {F : Nat → Bool} (hW : OWal I) (hF : cs J 77 F) : Ct γ mX9_begin 2 0 0 [.ref 42, .ref 77, .int m, .int N] (SS b c) I J (fun rt S' I' J' => none = rt ∧ (SS b c) = S' ∧ kI [42, 47, 48] I I' ∧ I' 42 10 = nI n ∧ I' 42 11 = m ∧ TgOK I' m ∧ kJ [43] J J' ∧ cs J' 43 F) := by
  subst eN; exact o_wbegin γ h0 hW hF
theorem o_startWalks (γ : GE) {b c : Bool} {I : AI} {J : AJ} (hN : ONow I) (hB : HBs I J) (hH : OHea I J) (hn5 : rg 720 (I 100 5)) (h60 : ¬ I 100 6 = 0) (hW : OWal I) {n : Nat} {N : Int32} (eN : N = nI n) : Ct γ mX11_startWalks 5 0 0 [.ref 0, .int N] (SS b c) I J (fun rt S' I' J' => none = rt ∧ (SS b c) = S' ∧ SWP I J n I' J') := by
  refine ct_of okX11_startWalks (L := [some (.ref 0), some (.int N)]) (Nat.le_of_ble_eq_true rfl) rfl ?_
  refine r_run okX11_startWalks 6 (cs := []) (σ' := (12, [some (.ref 0), some (.int N)], [.ref 29, .int (I 0 15), .ref 37], (SS b c), I, J, 0, 0)) rfl trivial ?_
  refine r_callV okX11_startWalks okX7_size [] [.int (I 0 15), .ref 37] 29 rfl rfl rfl kkX7_size rfl rfl (by decide) rfl rfl rfl (by decide) ⟨Nat.le_refl _, Nat.le_refl _⟩ (Nat.le_of_ble_eq_true rfl) (o_tsize γ hB.1) (fun v1 S1 I1 J1 hp => ?_)
  obtain ⟨rfl, rfl, rfl, rfl⟩ := hp
  show Rj _ _ _ _ _ _ (15, [some (.ref 0), some (.int N)], [.int (I 100 13), .int (I 0 15), .ref 37], (SS b c), I, J, 0, 0)
  refine r_run okX11_startWalks 2 (cs := []) (σ' := (19, [some (.ref 0), some (.int N)], [.ref 77, .int (I 100 13), .int (I 0 15), .ref 37], (SS b c), I, J, 0, 0)) rfl trivial ?_
  refine r_callV okX11_startWalks okX1_locate [.int (I 0 15), .int (I 100 13), .ref 77] [] 37 rfl rfl rfl kkX1_locate rfl rfl (by decide) rfl rfl rfl (by decide) ⟨Nat.le_refl _, Nat.le_refl _⟩ (Nat.le_of_ble_eq_true rfl) (o_locX γ (t := (nv (I 100 5))) (kn := nv (I 100 13)) (rg_nv hn5 (by decide)).1 ⟨(rg_nv hB.2.1.1 (by decide)).1, Nat.le_refl _⟩ hB hH (hN.1.trans (rg_nv hn5 (by decide)).2) (rg_nv hB.2.1.1 (by decide)).2) (fun v1 S1 I1 J1 hp => ?_)
  obtain ⟨rfl, rfl, hz, hO2, kz, cz⟩ := hp
  obtain ⟨Iz, eIz⟩ : ∃ z, z = I1 := ⟨_, rfl⟩
  subst eIz
  obtain ⟨Jz, eJz⟩ : ∃ z, z = J1 := ⟨_, rfl⟩
  subst eJz
  show Rj _ _ _ _ _ _ (22, [some (.ref 0), some (.int N)], [], (SS b c), Iz, Jz, 0, 0)
  refine r_run okX11_startWalks 6 (cs := []) (σ' := (34, [some (.ref 0), some (.int N)], [.ref 37, .ref 77, .ref 42], (SS b c), Iz, Jz, 0, 0)) rfl trivial ?_
  refine r_callV okX11_startWalks okX1_moves [] [.ref 77, .ref 42] 37 rfl rfl rfl kkX1_moves rfl rfl (by decide) rfl rfl rfl (by decide) ⟨Nat.le_refl _, Nat.le_refl _⟩ (Nat.le_of_ble_eq_true rfl) (o_moves γ) (fun v1 S1 I1 J1 hp => ?_)
  obtain ⟨rfl, rfl, rfl, rfl⟩ := hp
  show Rj _ _ _ _ _ _ (37, [some (.ref 0), some (.int N)], [.int (Iz 37 6), .ref 77, .ref 42], (SS b c), Iz, Jz, 0, 0)
  refine r_run okX11_startWalks 1 (cs := []) (σ' := (38, [some (.ref 0), some (.int N)], [.int N, .int (Iz 37 6), .ref 77, .ref 42], (SS b c), Iz, Jz, 0, 0)) rfl trivial ?_
  refine r_callV okX11_startWalks okX9_begin [.ref 77, .int (Iz 37 6), .int N] [] 42 rfl rfl rfl kkX9_begin rfl rfl (by decide) rfl rfl rfl (by decide) ⟨Nat.le_refl _, Nat.le_refl _⟩ (Nat.le_of_ble_eq_true rfl) (o_wbegX γ (by rw [hO2.1, hz 100 (by decide)]; exact h60) eN (OWal_k (by rw [hz 42 (by decide)]) (hz 47 (by decide)) (hz 48 (by decide)) hW) cz) (fun v1 S1 I1 J1 hp => ?_)
  obtain ⟨rfl, rfl, hy, y1, y2, y3, ky, cy⟩ := hp
  obtain ⟨Iy, eIy⟩ : ∃ z, z = I1 := ⟨_, rfl⟩
  subst eIy
  obtain ⟨Jy, eJy⟩ : ∃ z, z = J1 := ⟨_, rfl⟩
  subst eJy
  show Rj _ _ _ _ _ _ (41, [some (.ref 0), some (.int N)], [], (SS b c), Iy, Jy, 0, 0)
  refine r_vret okX11_startWalks rfl rfl (Nat.le_refl _) (Nat.le_refl _) ?_
  have e6 : Iz 37 6 = I 100 6 := by rw [hO2.1, hz 100 (by decide)]
  rw [e6] at y2 y3
  refine ⟨rfl, rfl, kI_t (kI_m (by decide) hz) (kI_m (by decide) hy), ?_, kJ_t (kJ_m (by decide) kz) (kJ_m (by decide) ky), y1, y2, y3, ?_⟩
  · exact OHea_k (hy 37 (by decide)) (fun a q1 q2 => hy a (fun z => by simp at z; omega)) (by rw [hy 100 (by decide)]) (by rw [hy 100 (by decide)]) (by rw [hy 100 (by decide)]) (ky 38 (by decide)) (ky 39 (by decide)) hO2
  · rw [show (mayB I (I 100 5) (nv (I 100 5))) = mayK I (nv (I 100 13)) (nv (I 100 5)) from funext fun x => (now_kn hB.1 _ x).symm]; exact cy
theorem spn_nv {n : Int32} (h : spnB n = true) : nv n ≤ 12 ∧ n = nI (nv n) := by
  obtain ⟨k, _, h2, rfl⟩ := spn_nat h
  rw [nv_nI (by omega)]; exact ⟨h2, rfl⟩
theorem o_paths (γ : GE) {b c : Bool} {I : AI} {J : AJ} (hN : ONow I) (hB : HBs I J) (hH : OHea I J) (hn5 : rg 720 (I 100 5)) (h60 : ¬ I 100 6 = 0) (hW : OWal I) (hL : OLd I) (hM : MLand I) (n : Int32) : Ct γ mX11_paths 6 0 0 [.ref 0, .int n] (SS b c) I J (fun rt S' I' J' => some (.long (pthR I n)) = rt ∧ (SS b c) = S' ∧ WkP I J I' J') := by
  refine ct_of okX11_paths (L := [some (.ref 0), some (.int n)]) (Nat.le_of_ble_eq_true rfl) rfl ?_
  refine r_run okX11_paths 1 (cs := []) (σ' := (1, [some (.ref 0), some (.int n)], [.int n], (SS b c), I, J, 0, 0)) rfl trivial ?_
  refine r_callS okX11_paths okX11_isSpan [.int n] [] rfl rfl rfl kkX11_isSpan rfl rfl (by decide) (by decide) ⟨Nat.le_refl _, Nat.le_refl _⟩ (Nat.le_of_ble_eq_true rfl) (o_isSpan γ n) (fun v1 S1 I1 J1 hp => ?_)
  obtain ⟨rfl, rfl, rfl, rfl⟩ := hp
  show Rj _ _ _ _ _ _ (4, [some (.ref 0), some (.int n)], [.int (bi (spnB n))], (SS b c), I, J, 0, 0)
  refine r_ifc okX11_paths rfl (fun (h4 : ¬ (bi (spnB n)) = (0 : Int32)) => ?_) (fun h40 => ?_)
  · have h4s := bi_n0.mp h4
    refine r_run okX11_paths 2 (cs := []) (σ' := (13, [some (.ref 0), some (.int n)], [.int n, .ref 0], (SS b c), I, J, 0, 0)) rfl trivial ?_
    refine r_callV okX11_paths okX11_startWalks [.int n] [] 0 rfl rfl rfl kkX11_startWalks rfl rfl (by decide) rfl rfl rfl (by decide) ⟨Nat.le_refl _, Nat.le_refl _⟩ (Nat.le_of_ble_eq_true rfl) (o_startWalks γ hN hB hH hn5 h60 hW (spn_nv h4s).2) (fun v1 S1 I1 J1 hp => ?_)
    obtain ⟨rfl, rfl, hw⟩ := hp
    obtain ⟨Iw, eIw⟩ : ∃ z, z = I1 := ⟨_, rfl⟩
    subst eIw
    obtain ⟨Jw, eJw⟩ : ∃ z, z = J1 := ⟨_, rfl⟩
    subst eJw
    show Rj _ _ _ _ _ _ (16, [some (.ref 0), some (.int n)], [], (SS b c), Iw, Jw, 0, 0)
    refine r_run okX11_paths 2 (cs := []) (σ' := (20, [some (.ref 0), some (.int n)], [.ref 42], (SS b c), Iw, Jw, 0, 0)) rfl trivial ?_
    refine r_callV okX11_paths okX9_all [] [] 42 rfl rfl rfl kkX9_all rfl rfl (by decide) rfl rfl rfl (by decide) ⟨Nat.le_refl _, Nat.le_refl _⟩ (Nat.le_of_ble_eq_true rfl) (o_all γ (Nat.lt_of_le_of_lt (spn_nv h4s).1 (by decide)) hw.2.2.2.1 (swp_T hw) hw.2.2.2.2.2.2 (swp_L hw hL) (swp_M hw hM)) (fun v1 S1 I1 J1 hp => ?_)
    obtain ⟨rfl, rfl, rfl, ka0⟩ := hp
    obtain ⟨Ja0, eJa0⟩ : ∃ z, z = J1 := ⟨_, rfl⟩
    subst eJa0
    show Rj _ _ _ _ _ _ (23, [some (.ref 0), some (.int n)], [.long (pthV Iw 255 (nv n) (mayB I (I 100 5) (nv (I 100 5))))], (SS b c), Iw, Ja0, 0, 0)
    refine r_lret okX11_paths rfl rfl (Nat.le_refl _) (Nat.le_refl _) ?_
    exact ⟨by unfold pthR pthA; rw [h4s, swp_p hw]; rfl, rfl, swp_w hw kI_r (kJ_m (by decide) ka0)⟩
  · have h4 : (bi (spnB n)) = (0 : Int32) := Classical.not_not.mp h40
    have h4s := bi_0.mp h4
    refine r_run okX11_paths 1 (cs := []) (σ' := (10, [some (.ref 0), some (.int n)], [.long (-1)], (SS b c), I, J, 0, 0)) rfl trivial ?_
    refine r_lret okX11_paths rfl rfl (Nat.le_refl _) (Nat.le_refl _) ?_
    exact ⟨by unfold pthR; rw [h4s]; rfl, rfl, ⟨kI_r, hH, hW, kJ_r⟩⟩
theorem o_missed (γ : GE) {b c : Bool} {I : AI} {J : AJ} (hN : ONow I) (hB : HBs I J) (hH : OHea I J) (hn5 : rg 720 (I 100 5)) (h60 : ¬ I 100 6 = 0) (hW : OWal I) (hL : OLd I) (hM : MLand I) (n z : Int32) : Ct γ mX11_missed 6 0 0 [.ref 0, .int n, .int z] (SS b c) I J (fun rt S' I' J' => some (.long (misR I n z)) = rt ∧ (SS b c) = S' ∧ WkP I J I' J') := by
  refine ct_of okX11_missed (L := [some (.ref 0), some (.int n), some (.int z)]) (Nat.le_of_ble_eq_true rfl) rfl ?_
  refine r_run okX11_missed 1 (cs := []) (σ' := (1, [some (.ref 0), some (.int n), some (.int z)], [.int n], (SS b c), I, J, 0, 0)) rfl trivial ?_
  refine r_callS okX11_missed okX11_isSpan [.int n] [] rfl rfl rfl kkX11_isSpan rfl rfl (by decide) (by decide) ⟨Nat.le_refl _, Nat.le_refl _⟩ (Nat.le_of_ble_eq_true rfl) (o_isSpan γ n) (fun v1 S1 I1 J1 hp => ?_)
  obtain ⟨rfl, rfl, rfl, rfl⟩ := hp
  show Rj _ _ _ _ _ _ (4, [some (.ref 0), some (.int n), some (.int z)], [.int (bi (spnB n))], (SS b c), I, J, 0, 0)
  refine r_ifc okX11_missed rfl (fun (h4 : (bi (spnB n)) = (0 : Int32)) => ?_) (fun (h4 : ¬ (bi (spnB n)) = (0 : Int32)) => ?_)
  · have h4s := bi_0.mp h4
    refine r_run okX11_missed 1 (cs := []) (σ' := (21, [some (.ref 0), some (.int n), some (.int z)], [.long (-1)], (SS b c), I, J, 0, 0)) rfl trivial ?_
    refine r_lret okX11_missed rfl rfl (Nat.le_refl _) (Nat.le_refl _) ?_
    exact ⟨by unfold misR; rw [h4s]; rfl, rfl, ⟨kI_r, hH, hW, kJ_r⟩⟩
  · have h4s := bi_n0.mp h4
    refine r_run okX11_missed 3 (cs := []) (σ' := (12, [some (.ref 0), some (.int n), some (.int z)], [.int 255, .int 0, .int z], (SS b c), I, J, 0, 0)) rfl trivial ?_
    refine r_callS okX11_missed okX11_within [.int z, .int 0, .int 255] [] rfl rfl rfl kkX11_within rfl rfl (by decide) (by decide) ⟨Nat.le_refl _, Nat.le_refl _⟩ (Nat.le_of_ble_eq_true rfl) (o_win γ z 0 255) (fun v1 S1 I1 J1 hp => ?_)
    obtain ⟨rfl, rfl, rfl, rfl⟩ := hp
    show Rj _ _ _ _ _ _ (15, [some (.ref 0), some (.int n), some (.int z)], [.int (bi (inB z 0 255))], (SS b c), I, J, 0, 0)
    refine r_ifc okX11_missed rfl (fun (h15 : ¬ (bi (inB z 0 255)) = (0 : Int32)) => ?_) (fun h150 => ?_)
    · have h15s := bi_n0.mp h15
      refine r_run okX11_missed 2 (cs := []) (σ' := (24, [some (.ref 0), some (.int n), some (.int z)], [.int n, .ref 0], (SS b c), I, J, 0, 0)) rfl trivial ?_
      refine r_callV okX11_missed okX11_startWalks [.int n] [] 0 rfl rfl rfl kkX11_startWalks rfl rfl (by decide) rfl rfl rfl (by decide) ⟨Nat.le_refl _, Nat.le_refl _⟩ (Nat.le_of_ble_eq_true rfl) (o_startWalks γ hN hB hH hn5 h60 hW (spn_nv h4s).2) (fun v1 S1 I1 J1 hp => ?_)
      obtain ⟨rfl, rfl, hw⟩ := hp
      obtain ⟨Iw, eIw⟩ : ∃ z, z = I1 := ⟨_, rfl⟩
      subst eIw
      obtain ⟨Jw, eJw⟩ : ∃ z, z = J1 := ⟨_, rfl⟩
      subst eJw
      show Rj _ _ _ _ _ _ (27, [some (.ref 0), some (.int n), some (.int z)], [], (SS b c), Iw, Jw, 0, 0)
      refine r_run okX11_missed 2 (cs := []) (σ' := (31, [some (.ref 0), some (.int n), some (.int z)], [.ref 42], (SS b c), Iw, Jw, 0, 0)) rfl trivial ?_
      refine r_callV okX11_missed okX9_all [] [] 42 rfl rfl rfl kkX9_all rfl rfl (by decide) rfl rfl rfl (by decide) ⟨Nat.le_refl _, Nat.le_refl _⟩ (Nat.le_of_ble_eq_true rfl) (o_all γ (Nat.lt_of_le_of_lt (spn_nv h4s).1 (by decide)) hw.2.2.2.1 (swp_T hw) hw.2.2.2.2.2.2 (swp_L hw hL) (swp_M hw hM)) (fun v1 S1 I1 J1 hp => ?_)
      obtain ⟨rfl, rfl, rfl, ka0⟩ := hp
      obtain ⟨Ja0, eJa0⟩ : ∃ z, z = J1 := ⟨_, rfl⟩
      subst eJa0
      show Rj _ _ _ _ _ _ (34, [some (.ref 0), some (.int n), some (.int z)], [.long (pthV Iw 255 (nv n) (mayB I (I 100 5) (nv (I 100 5))))], (SS b c), Iw, Ja0, 0, 0)
      refine r_run okX11_missed 3 (cs := []) (σ' := (39, [some (.ref 0), some (.int n), some (.int z)], [.int z, .ref 42, .long (pthV Iw 255 (nv n) (mayB I (I 100 5) (nv (I 100 5))))], (SS b c), Iw, Ja0, 0, 0)) rfl trivial ?_
      refine r_callV okX11_missed okX9_within [.int z] [.long (pthV Iw 255 (nv n) (mayB I (I 100 5) (nv (I 100 5))))] 42 rfl rfl rfl kkX9_within rfl rfl (by decide) rfl rfl rfl (by decide) ⟨Nat.le_refl _, Nat.le_refl _⟩ (Nat.le_of_ble_eq_true rfl) (o_within γ (Nat.lt_of_le_of_lt (spn_nv h4s).1 (by decide)) hw.2.2.2.1 (swp_T hw) (cs_k (ka0 43 (by decide)) hw.2.2.2.2.2.2) (swp_L hw hL) (swp_M hw hM) z) (fun v1 S1 I1 J1 hp => ?_)
      obtain ⟨rfl, rfl, rfl, ka1⟩ := hp
      obtain ⟨Ja1, eJa1⟩ : ∃ z, z = J1 := ⟨_, rfl⟩
      subst eJa1
      show Rj _ _ _ _ _ _ (42, [some (.ref 0), some (.int n), some (.int z)], [.long (pthV Iw z (nv n) (mayB I (I 100 5) (nv (I 100 5)))), .long (pthV Iw 255 (nv n) (mayB I (I 100 5) (nv (I 100 5))))], (SS b c), Iw, Ja1, 0, 0)
      refine r_run okX11_missed 1 (cs := []) (σ' := (43, [some (.ref 0), some (.int n), some (.int z)], [.long ((pthV Iw 255 (nv n) (mayB I (I 100 5) (nv (I 100 5)))) - (pthV Iw z (nv n) (mayB I (I 100 5) (nv (I 100 5)))))], (SS b c), Iw, Ja1, 0, 0)) rfl trivial ?_
      refine r_lret okX11_missed rfl rfl (Nat.le_refl _) (Nat.le_refl _) ?_
      exact ⟨by unfold misR pthA; rw [h4s, h15s, swp_p hw, swp_p hw]; rfl, rfl, swp_w hw kI_r (kJ_t (kJ_m (by decide) ka0) (kJ_m (by decide) ka1))⟩
    · have h15 : (bi (inB z 0 255)) = (0 : Int32) := Classical.not_not.mp h150
      have h15s := bi_0.mp h15
      refine r_run okX11_missed 1 (cs := []) (σ' := (21, [some (.ref 0), some (.int n), some (.int z)], [.long (-1)], (SS b c), I, J, 0, 0)) rfl trivial ?_
      refine r_lret okX11_missed rfl rfl (Nat.le_refl _) (Nat.le_refl _) ?_
      exact ⟨by unfold misR; rw [h4s, h15s]; rfl, rfl, ⟨kI_r, hH, hW, kJ_r⟩⟩
theorem o_bbX (γ : GE) {b c : Bool} {I : AI} {J : AJ} {n q : Nat} {F : Nat → Bool} {P : Int32} (eP : P = nI q) (hq : q ≤ 1000) (hn : n ≤ 12) (en : I 42 10 = nI n) (hT : TgOK I (I 100 6)) (hL : OLd I) (hM : MLand I) (hC : OCr I) (h6 : rg 512 (I 100 6)) (em : I 42 11 = I 100 6) (hF : cs J 43 F) : Ct γ mX9_bestBox 4 0 0 [.ref 42, .int P] (SS b c) I J (fun rt S' I' J' => (∃ t, some (.int (nI t)) = rt ∧ BBI (fun z => pthV I z n F) (nI q) (vM I) (UU I n F) 0 t) ∧ (SS b c) = S' ∧ kI [51] I I' ∧ kJ [44, 45, 46, 49, 50] J J') := by
  subst eP
  exact o_bestBox γ (Nat.lt_of_le_of_lt hn (by decide)) en hT hL hM (VP_of hM hC) (UU_lt hM) (fun s i hs hi h => ok_mono hM hn hq s i hs hi h) (rg_nv h6 (by decide)).1 (rg_nv h6 (by decide)).2 em hF (UU_cw hM) (UU_in hM) (UU_ok hM hn hq)
theorem cwp_k {I I' : AI} (h : I' 101 = I 101) (h2 : I' 102 = I 102) (f : Nat → Bool) : ∀ n, cwp I' f n = cwp I f n
  | 0 => rfl
  | n + 1 => by unfold cwp; rw [h, h2, cwp_k h h2 f n]
theorem vM_k {I I' : AI} (h1 : I' 101 = I 101) (h2 : I' 102 = I 102) : vM I' = vM I := by
  funext s; unfold vM; rw [h1, pM_k h2]
theorem box_end {I Iw : AI} {J Jw : AJ} {n part : Int32} {t : Nat} (hM : MLand I) (hw : SWP I J (nv n) Iw Jw) (hn : spnB n = true) (hp : inB part 0 1000 = true) (h : BBI (fun z => pthV Iw z (nv n) (mayB I (I 100 5) (nv (I 100 5)))) (nI (nv part)) (vM Iw) (UU Iw (nv n) (mayB I (I 100 5) (nv (I 100 5)))) 0 t) : boxS I (fun z => pthA I z (nv n)) part 256 0 none 0 = (some t, nI (vM I t)) := by
  have e1 : (fun z => pthV Iw z (nv n) (mayB I (I 100 5) (nv (I 100 5)))) = (fun z => pthV I z (nv n) (mayB I (I 100 5) (nv (I 100 5)))) := funext fun z => swp_p hw z _ _
  have hv : vM Iw = vM I := vM_k (hw.1 101 (by decide)) (hw.1 102 (by decide))
  have hU : UU Iw (nv n) (mayB I (I 100 5) (nv (I 100 5))) = UU I (nv n) (mayB I (I 100 5) (nv (I 100 5))) := by
    have a1 := UU_cw (swp_M hw hM) (n := nv n) (F := (mayB I (I 100 5) (nv (I 100 5))))
    have a2 := UU_cw hM (n := nv n) (F := (mayB I (I 100 5) (nv (I 100 5))))
    have e : cwp Iw (metN (Iw 100 6) (mayB I (I 100 5) (nv (I 100 5))) (nv n)) 96 = cwp I (metN (I 100 6) (mayB I (I 100 5) (nv (I 100 5))) (nv n)) 96 := by
      rw [hw.1 100 (by decide), cwp_k (hw.1 101 (by decide)) (hw.1 102 (by decide))]
    rw [a1, a2] at e
    exact nI_inj (Nat.lt_trans (UU_lt (swp_M hw hM)) (by decide)) (Nat.lt_trans (UU_lt hM) (by decide)) e
  rw [e1, hv, hU] at h
  have hq := in_lt (n := 1000) hp rfl (by decide)
  have hb := box_eq hM (spn_nv hn).1 hq.1 h
  rw [← hq.2] at hb
  rw [show (fun z => pthA I z (nv n)) = (fun z => pthV I z (nv n) (mayB I (I 100 5) (nv (I 100 5)))) from rfl, hb, ppl_M hM h.1 96 (Nat.le_refl _)]; rfl
theorem o_box0 (γ : GE) {b c : Bool} {I : AI} {J : AJ} (hN : ONow I) (hB : HBs I J) (hH : OHea I J) (hn5 : rg 720 (I 100 5)) (h60 : ¬ I 100 6 = 0) (hW : OWal I) (hL : OLd I) (hM : MLand I) (hC : OCr I) (n part w : Int32) (e0 : w = 0) : Ct γ mX11_box 6 0 0 [.ref 0, .int n, .int part, .int w] (SS b c) I J (fun rt S' I' J' => some (.int (boxV I n part w)) = rt ∧ (SS b c) = S' ∧ WkP I J I' J') := by
  refine ct_of okX11_box (L := [some (.ref 0), some (.int n), some (.int part), some (.int w), none]) (Nat.le_of_ble_eq_true rfl) rfl ?_
  refine r_run okX11_box 1 (cs := []) (σ' := (1, [some (.ref 0), some (.int n), some (.int part), some (.int w), none], [.int n], (SS b c), I, J, 0, 0)) rfl trivial ?_
  refine r_callS okX11_box okX11_isSpan [.int n] [] rfl rfl rfl kkX11_isSpan rfl rfl (by decide) (by decide) ⟨Nat.le_refl _, Nat.le_refl _⟩ (Nat.le_of_ble_eq_true rfl) (o_isSpan γ n) (fun v1 S1 I1 J1 hp => ?_)
  obtain ⟨rfl, rfl, rfl, rfl⟩ := hp
  show Rj _ _ _ _ _ _ (4, [some (.ref 0), some (.int n), some (.int part), some (.int w), none], [.int (bi (spnB n))], (SS b c), I, J, 0, 0)
  refine r_ifc okX11_box rfl (fun (h4 : (bi (spnB n)) = (0 : Int32)) => ?_) (fun (h4 : ¬ (bi (spnB n)) = (0 : Int32)) => ?_)
  · have h4s := bi_0.mp h4
    refine r_run okX11_box 1 (cs := []) (σ' := (28, [some (.ref 0), some (.int n), some (.int part), some (.int w), none], [.int (-1)], (SS b c), I, J, 0, 0)) rfl trivial ?_
    refine r_iret okX11_box rfl rfl rfl (Nat.le_refl _) (Nat.le_refl _) ?_
    exact ⟨by unfold boxV boxB; rw [h4s]; rfl, rfl, ⟨kI_r, hH, hW, kJ_r⟩⟩
  · have h4s := bi_n0.mp h4
    refine r_run okX11_box 3 (cs := []) (σ' := (12, [some (.ref 0), some (.int n), some (.int part), some (.int w), none], [.int 1000, .int 0, .int part], (SS b c), I, J, 0, 0)) rfl trivial ?_
    refine r_callS okX11_box okX11_within [.int part, .int 0, .int 1000] [] rfl rfl rfl kkX11_within rfl rfl (by decide) (by decide) ⟨Nat.le_refl _, Nat.le_refl _⟩ (Nat.le_of_ble_eq_true rfl) (o_win γ part 0 1000) (fun v1 S1 I1 J1 hp => ?_)
    obtain ⟨rfl, rfl, rfl, rfl⟩ := hp
    show Rj _ _ _ _ _ _ (15, [some (.ref 0), some (.int n), some (.int part), some (.int w), none], [.int (bi (inB part 0 1000))], (SS b c), I, J, 0, 0)
    refine r_ifc okX11_box rfl (fun (h15 : (bi (inB part 0 1000)) = (0 : Int32)) => ?_) (fun (h15 : ¬ (bi (inB part 0 1000)) = (0 : Int32)) => ?_)
    · have h15s := bi_0.mp h15
      refine r_run okX11_box 1 (cs := []) (σ' := (28, [some (.ref 0), some (.int n), some (.int part), some (.int w), none], [.int (-1)], (SS b c), I, J, 0, 0)) rfl trivial ?_
      refine r_iret okX11_box rfl rfl rfl (Nat.le_refl _) (Nat.le_refl _) ?_
      exact ⟨by unfold boxV boxB; rw [h4s, h15s]; rfl, rfl, ⟨kI_r, hH, hW, kJ_r⟩⟩
    · have h15s := bi_n0.mp h15
      refine r_run okX11_box 3 (cs := []) (σ' := (21, [some (.ref 0), some (.int n), some (.int part), some (.int w), none], [.int 1, .int 0, .int w], (SS b c), I, J, 0, 0)) rfl trivial ?_
      refine r_callS okX11_box okX11_within [.int w, .int 0, .int 1] [] rfl rfl rfl kkX11_within rfl rfl (by decide) (by decide) ⟨Nat.le_refl _, Nat.le_refl _⟩ (Nat.le_of_ble_eq_true rfl) (o_win γ w 0 1) (fun v1 S1 I1 J1 hp => ?_)
      obtain ⟨rfl, rfl, rfl, rfl⟩ := hp
      show Rj _ _ _ _ _ _ (24, [some (.ref 0), some (.int n), some (.int part), some (.int w), none], [.int (bi (inB w 0 1))], (SS b c), I, J, 0, 0)
      refine r_ifc okX11_box rfl (fun (h24 : ¬ (bi (inB w 0 1)) = (0 : Int32)) => ?_) (fun h240 => ?_)
      · have h24s := bi_n0.mp h24
        refine r_run okX11_box 2 (cs := []) (σ' := (31, [some (.ref 0), some (.int n), some (.int part), some (.int w), none], [.int n, .ref 0], (SS b c), I, J, 0, 0)) rfl trivial ?_
        refine r_callV okX11_box okX11_startWalks [.int n] [] 0 rfl rfl rfl kkX11_startWalks rfl rfl (by decide) rfl rfl rfl (by decide) ⟨Nat.le_refl _, Nat.le_refl _⟩ (Nat.le_of_ble_eq_true rfl) (o_startWalks γ hN hB hH hn5 h60 hW (spn_nv h4s).2) (fun v1 S1 I1 J1 hp => ?_)
        obtain ⟨rfl, rfl, hw⟩ := hp
        obtain ⟨Iw, eIw⟩ : ∃ z, z = I1 := ⟨_, rfl⟩
        subst eIw
        obtain ⟨Jw, eJw⟩ : ∃ z, z = J1 := ⟨_, rfl⟩
        subst eJw
        show Rj _ _ _ _ _ _ (34, [some (.ref 0), some (.int n), some (.int part), some (.int w), none], [], (SS b c), Iw, Jw, 0, 0)
        refine r_run okX11_box 3 (cs := []) (σ' := (39, [some (.ref 0), some (.int n), some (.int part), some (.int w), none], [.int part, .ref 42], (SS b c), Iw, Jw, 0, 0)) rfl trivial ?_
        refine r_callV okX11_box okX9_bestBox [.int part] [] 42 rfl rfl rfl kkX9_bestBox rfl rfl (by decide) rfl rfl rfl (by decide) ⟨Nat.le_refl _, Nat.le_refl _⟩ (Nat.le_of_ble_eq_true rfl) (o_bbX γ (in_lt (n := 1000) h15s rfl (by decide)).2 (in_lt (n := 1000) h15s rfl (by decide)).1 (spn_nv h4s).1 hw.2.2.2.1 (swp_T hw) (swp_L hw hL) (swp_M hw hM) (swp_C hw hC) (by rw [hw.1 100 (by decide)]; exact hB.2.2.2.2.1) (by rw [hw.1 100 (by decide)]; exact hw.2.2.2.2.1) hw.2.2.2.2.2.2) (fun v1 S1 I1 J1 hp => ?_)
        obtain ⟨⟨tt, rfl, hbb⟩, rfl, kb, kbj⟩ := hp
        obtain ⟨Ib, eIb⟩ : ∃ z, z = I1 := ⟨_, rfl⟩
        subst eIb
        obtain ⟨Jb, eJb⟩ : ∃ z, z = J1 := ⟨_, rfl⟩
        subst eJb
        have hbx := box_end hM hw h4s h15s hbb
        have htt := hbb.1
        show Rj _ _ _ _ _ _ (42, [some (.ref 0), some (.int n), some (.int part), some (.int w), none], [.int (nI tt)], (SS b c), Ib, Jb, 0, 0)
        refine r_run okX11_box 2 (cs := []) (σ' := (45, [some (.ref 0), some (.int n), some (.int part), some (.int w), some (.int (nI tt))], [.int w], (SS b c), Ib, Jb, 0, 0)) rfl trivial ?_
        refine r_ifc okX11_box rfl (fun (h45 : ¬ w = (0 : Int32)) => ?_) (fun h450 => ?_)
        · exact absurd e0 h45
        · have h45 : w = (0 : Int32) := Classical.not_not.mp h450
          refine r_run okX11_box 2 (cs := []) (σ' := (62, [some (.ref 0), some (.int n), some (.int part), some (.int w), some (.int (nI tt))], [.int (nI tt)], (SS b c), Ib, Jb, 0, 0)) rfl trivial ?_
          refine r_iret okX11_box rfl rfl rfl (Nat.le_refl _) (Nat.le_refl _) ?_
          exact ⟨by unfold boxV boxB; rw [h4s, h15s, h24s, hbx, if_pos e0]; rfl, rfl, swp_w hw kb kbj⟩
      · have h24 : (bi (inB w 0 1)) = (0 : Int32) := Classical.not_not.mp h240
        have h24s := bi_0.mp h24
        refine r_run okX11_box 1 (cs := []) (σ' := (28, [some (.ref 0), some (.int n), some (.int part), some (.int w), none], [.int (-1)], (SS b c), I, J, 0, 0)) rfl trivial ?_
        refine r_iret okX11_box rfl rfl rfl (Nat.le_refl _) (Nat.le_refl _) ?_
        exact ⟨by unfold boxV boxB; rw [h4s, h15s, h24s]; rfl, rfl, ⟨kI_r, hH, hW, kJ_r⟩⟩
theorem o_box1 (γ : GE) {b c : Bool} {I : AI} {J : AJ} (hN : ONow I) (hB : HBs I J) (hH : OHea I J) (hn5 : rg 720 (I 100 5)) (h60 : ¬ I 100 6 = 0) (hW : OWal I) (hL : OLd I) (hM : MLand I) (hC : OCr I) (n part w : Int32) (e0 : ¬ w = 0) : Ct γ mX11_box 6 0 0 [.ref 0, .int n, .int part, .int w] (SS b c) I J (fun rt S' I' J' => some (.int (boxV I n part w)) = rt ∧ (SS b c) = S' ∧ WkP I J I' J') := by
  refine ct_of okX11_box (L := [some (.ref 0), some (.int n), some (.int part), some (.int w), none]) (Nat.le_of_ble_eq_true rfl) rfl ?_
  refine r_run okX11_box 1 (cs := []) (σ' := (1, [some (.ref 0), some (.int n), some (.int part), some (.int w), none], [.int n], (SS b c), I, J, 0, 0)) rfl trivial ?_
  refine r_callS okX11_box okX11_isSpan [.int n] [] rfl rfl rfl kkX11_isSpan rfl rfl (by decide) (by decide) ⟨Nat.le_refl _, Nat.le_refl _⟩ (Nat.le_of_ble_eq_true rfl) (o_isSpan γ n) (fun v1 S1 I1 J1 hp => ?_)
  obtain ⟨rfl, rfl, rfl, rfl⟩ := hp
  show Rj _ _ _ _ _ _ (4, [some (.ref 0), some (.int n), some (.int part), some (.int w), none], [.int (bi (spnB n))], (SS b c), I, J, 0, 0)
  refine r_ifc okX11_box rfl (fun (h4 : (bi (spnB n)) = (0 : Int32)) => ?_) (fun (h4 : ¬ (bi (spnB n)) = (0 : Int32)) => ?_)
  · have h4s := bi_0.mp h4
    refine r_run okX11_box 1 (cs := []) (σ' := (28, [some (.ref 0), some (.int n), some (.int part), some (.int w), none], [.int (-1)], (SS b c), I, J, 0, 0)) rfl trivial ?_
    refine r_iret okX11_box rfl rfl rfl (Nat.le_refl _) (Nat.le_refl _) ?_
    exact ⟨by unfold boxV boxB; rw [h4s]; rfl, rfl, ⟨kI_r, hH, hW, kJ_r⟩⟩
  · have h4s := bi_n0.mp h4
    refine r_run okX11_box 3 (cs := []) (σ' := (12, [some (.ref 0), some (.int n), some (.int part), some (.int w), none], [.int 1000, .int 0, .int part], (SS b c), I, J, 0, 0)) rfl trivial ?_
    refine r_callS okX11_box okX11_within [.int part, .int 0, .int 1000] [] rfl rfl rfl kkX11_within rfl rfl (by decide) (by decide) ⟨Nat.le_refl _, Nat.le_refl _⟩ (Nat.le_of_ble_eq_true rfl) (o_win γ part 0 1000) (fun v1 S1 I1 J1 hp => ?_)
    obtain ⟨rfl, rfl, rfl, rfl⟩ := hp
    show Rj _ _ _ _ _ _ (15, [some (.ref 0), some (.int n), some (.int part), some (.int w), none], [.int (bi (inB part 0 1000))], (SS b c), I, J, 0, 0)
    refine r_ifc okX11_box rfl (fun (h15 : (bi (inB part 0 1000)) = (0 : Int32)) => ?_) (fun (h15 : ¬ (bi (inB part 0 1000)) = (0 : Int32)) => ?_)
    · have h15s := bi_0.mp h15
      refine r_run okX11_box 1 (cs := []) (σ' := (28, [some (.ref 0), some (.int n), some (.int part), some (.int w), none], [.int (-1)], (SS b c), I, J, 0, 0)) rfl trivial ?_
      refine r_iret okX11_box rfl rfl rfl (Nat.le_refl _) (Nat.le_refl _) ?_
      exact ⟨by unfold boxV boxB; rw [h4s, h15s]; rfl, rfl, ⟨kI_r, hH, hW, kJ_r⟩⟩
    · have h15s := bi_n0.mp h15
      refine r_run okX11_box 3 (cs := []) (σ' := (21, [some (.ref 0), some (.int n), some (.int part), some (.int w), none], [.int 1, .int 0, .int w], (SS b c), I, J, 0, 0)) rfl trivial ?_
      refine r_callS okX11_box okX11_within [.int w, .int 0, .int 1] [] rfl rfl rfl kkX11_within rfl rfl (by decide) (by decide) ⟨Nat.le_refl _, Nat.le_refl _⟩ (Nat.le_of_ble_eq_true rfl) (o_win γ w 0 1) (fun v1 S1 I1 J1 hp => ?_)
      obtain ⟨rfl, rfl, rfl, rfl⟩ := hp
      show Rj _ _ _ _ _ _ (24, [some (.ref 0), some (.int n), some (.int part), some (.int w), none], [.int (bi (inB w 0 1))], (SS b c), I, J, 0, 0)
      refine r_ifc okX11_box rfl (fun (h24 : ¬ (bi (inB w 0 1)) = (0 : Int32)) => ?_) (fun h240 => ?_)
      · have h24s := bi_n0.mp h24
        refine r_run okX11_box 2 (cs := []) (σ' := (31, [some (.ref 0), some (.int n), some (.int part), some (.int w), none], [.int n, .ref 0], (SS b c), I, J, 0, 0)) rfl trivial ?_
        refine r_callV okX11_box okX11_startWalks [.int n] [] 0 rfl rfl rfl kkX11_startWalks rfl rfl (by decide) rfl rfl rfl (by decide) ⟨Nat.le_refl _, Nat.le_refl _⟩ (Nat.le_of_ble_eq_true rfl) (o_startWalks γ hN hB hH hn5 h60 hW (spn_nv h4s).2) (fun v1 S1 I1 J1 hp => ?_)
        obtain ⟨rfl, rfl, hw⟩ := hp
        obtain ⟨Iw, eIw⟩ : ∃ z, z = I1 := ⟨_, rfl⟩
        subst eIw
        obtain ⟨Jw, eJw⟩ : ∃ z, z = J1 := ⟨_, rfl⟩
        subst eJw
        show Rj _ _ _ _ _ _ (34, [some (.ref 0), some (.int n), some (.int part), some (.int w), none], [], (SS b c), Iw, Jw, 0, 0)
        refine r_run okX11_box 3 (cs := []) (σ' := (39, [some (.ref 0), some (.int n), some (.int part), some (.int w), none], [.int part, .ref 42], (SS b c), Iw, Jw, 0, 0)) rfl trivial ?_
        refine r_callV okX11_box okX9_bestBox [.int part] [] 42 rfl rfl rfl kkX9_bestBox rfl rfl (by decide) rfl rfl rfl (by decide) ⟨Nat.le_refl _, Nat.le_refl _⟩ (Nat.le_of_ble_eq_true rfl) (o_bbX γ (in_lt (n := 1000) h15s rfl (by decide)).2 (in_lt (n := 1000) h15s rfl (by decide)).1 (spn_nv h4s).1 hw.2.2.2.1 (swp_T hw) (swp_L hw hL) (swp_M hw hM) (swp_C hw hC) (by rw [hw.1 100 (by decide)]; exact hB.2.2.2.2.1) (by rw [hw.1 100 (by decide)]; exact hw.2.2.2.2.1) hw.2.2.2.2.2.2) (fun v1 S1 I1 J1 hp => ?_)
        obtain ⟨⟨tt, rfl, hbb⟩, rfl, kb, kbj⟩ := hp
        obtain ⟨Ib, eIb⟩ : ∃ z, z = I1 := ⟨_, rfl⟩
        subst eIb
        obtain ⟨Jb, eJb⟩ : ∃ z, z = J1 := ⟨_, rfl⟩
        subst eJb
        have hbx := box_end hM hw h4s h15s hbb
        have htt := hbb.1
        show Rj _ _ _ _ _ _ (42, [some (.ref 0), some (.int n), some (.int part), some (.int w), none], [.int (nI tt)], (SS b c), Ib, Jb, 0, 0)
        refine r_run okX11_box 2 (cs := []) (σ' := (45, [some (.ref 0), some (.int n), some (.int part), some (.int w), some (.int (nI tt))], [.int w], (SS b c), Ib, Jb, 0, 0)) rfl trivial ?_
        refine r_ifc okX11_box rfl (fun (h45 : ¬ w = (0 : Int32)) => ?_) (fun h450 => ?_)
        · refine r_run okX11_box 3 (cs := []) (σ' := (59, [some (.ref 0), some (.int n), some (.int part), some (.int w), some (.int (nI tt))], [.int (nI tt), .ref 1], (SS b c), Ib, Jb, 0, 0)) rfl trivial ?_
          refine r_callV okX11_box okX2_peopleOfBox [.int (nI tt)] [] 1 rfl rfl rfl kkX2_peopleOfBox rfl rfl (by decide) rfl rfl rfl (by decide) ⟨Nat.le_refl _, Nat.le_refl _⟩ (Nat.le_of_ble_eq_true rfl) (o_peopleOfBox γ (nI tt)) (fun v1 S1 I1 J1 hp => ?_)
          obtain ⟨rfl, rfl, rfl, rfl⟩ := hp
          show Rj _ _ _ _ _ _ (62, [some (.ref 0), some (.int n), some (.int part), some (.int w), some (.int (nI tt))], [.int (smB (Ib 6) (onB (nI tt)) 8)], (SS b c), Ib, Jb, 0, 0)
          refine r_iret okX11_box rfl rfl rfl (Nat.le_refl _) (Nat.le_refl _) ?_
          exact ⟨by unfold boxV boxB; rw [h4s, h15s, h24s, hbx, if_neg e0, kb 6 (by decide), hw.1 6 (by decide), (VP_of hM hC tt htt).1]; rfl, rfl, swp_w hw kb kbj⟩
        · have h45 : w = (0 : Int32) := Classical.not_not.mp h450
          exact absurd h45 e0
      · have h24 : (bi (inB w 0 1)) = (0 : Int32) := Classical.not_not.mp h240
        have h24s := bi_0.mp h24
        refine r_run okX11_box 1 (cs := []) (σ' := (28, [some (.ref 0), some (.int n), some (.int part), some (.int w), none], [.int (-1)], (SS b c), I, J, 0, 0)) rfl trivial ?_
        refine r_iret okX11_box rfl rfl rfl (Nat.le_refl _) (Nat.le_refl _) ?_
        exact ⟨by unfold boxV boxB; rw [h4s, h15s, h24s]; rfl, rfl, ⟨kI_r, hH, hW, kJ_r⟩⟩
theorem o_box (γ : GE) {b c : Bool} {I : AI} {J : AJ} (hN : ONow I) (hB : HBs I J) (hH : OHea I J) (hn5 : rg 720 (I 100 5)) (h60 : ¬ I 100 6 = 0) (hW : OWal I) (hL : OLd I) (hM : MLand I) (hC : OCr I) (n part w : Int32) : Ct γ mX11_box 6 0 0 [.ref 0, .int n, .int part, .int w] (SS b c) I J (fun rt S' I' J' => some (.int (boxV I n part w)) = rt ∧ (SS b c) = S' ∧ WkP I J I' J') := by
  by_cases e0 : w = 0
  · exact o_box0 γ hN hB hH hn5 h60 hW hL hM hC n part w e0
  · exact o_box1 γ hN hB hH hn5 h60 hW hL hM hC n part w e0
