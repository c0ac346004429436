/-! ===== the reference: findNear ===== -/
def mN (I : AI) (gn gs gr : Nat → Int32) : AI := fun a => if a = 136 then gn else if a = 137 then gs else if a = 138 then gr else I a
theorem mN_self {I : AI} : mN I (I 136) (I 137) (I 138) = I := by
  funext a; simp only [mN]; split; (· rename_i h; rw [h]); split; (· rename_i h; rw [h]); split; (· rename_i h; rw [h]); rfl
theorem mN_ne {I : AI} {gn gs gr : Nat → Int32} {a : Nat} (h1 : a ≠ 136) (h2 : a ≠ 137) (h3 : a ≠ 138) : mN I gn gs gr a = I a := by simp [mN, h1, h2, h3]
theorem mN_n {I : AI} {gn gs gr : Nat → Int32} {k : Nat} {v : Int32} : upI (mN I gn gs gr) 136 k v = mN I (upd gn k v) gs gr := by
  funext a b; simp only [upI, mN, upd]; by_cases h : a = 136 <;> simp [h, upd]
theorem mN_s {I : AI} {gn gs gr : Nat → Int32} {k : Nat} {v : Int32} : upI (mN I gn gs gr) 137 k v = mN I gn (upd gs k v) gr := by
  funext a b; simp only [upI, mN, upd]; by_cases h : a = 137 <;> simp [h, upd]
theorem mN_r {I : AI} {gn gs gr : Nat → Int32} {k : Nat} {v : Int32} : upI (mN I gn gs gr) 138 k v = mN I gn gs (upd gr k v) := by
  funext a b; simp only [upI, mN, upd]; by_cases h : a = 138 <;> simp [h, upd]
theorem upd_t {f : Nat → Int32} {k : Nat} {v : Int32} : upd f k v k = v := by simp [upd]
theorem upd_f {f : Nat → Int32} {k j : Nat} {v : Int32} (h : ¬ j = k) : upd f k v j = f j := by simp [upd, h]
def cyB (I : AI) (k x : Nat) : Bool := decide (I 101 x = nI k)
def nrN (I : AI) (f : Nat → Bool) (k n : Nat) : Nat := cnt (fun x => f x && cyB I k x) n
def rchN (m : Int32) (f : Nat → Bool) : Nat → Nat → Bool
  | 0, x => f x
  | s + 1, x => fromN m (rchN m f s) 96 x
def hitN (I : AI) (f : Nat → Bool) (k n : Nat) : Bool := (List.range n).any fun x => f x && cyB I k x
def sooN (I : AI) (f : Nat → Bool) (k : Nat) : Nat → Int32
  | 0 => 99
  | s + 1 => if hitN I (rchN (I 100 6) f s) k 96 && decide (nI s < sooN I f k s) then nI s else sooN I f k s
def sooQ (I : AI) (fr : Nat → Bool) (k : Nat) (s : Int32) (v : Int32) (n : Nat) : Int32 := if hitN I fr k n && decide (s < v) then s else v
theorem lp_N1 (γ : GE) {b c : Bool} {I : AI} {J : AJ} {Post : PT}  (K : ∀ (gn gs gr : Nat → Int32), (∀ i, i < 8 → gn i = 0 ∧ gs i = 99) → Rj γ mX12_findNear 2 0 0 Post (29, [some (.ref 100), none, none, none], [], (SS b c), (mN I gn gs gr), J, 0, 0)) : ∀ (j k : Nat) (gn gs gr : Nat → Int32), k + j = 8 → (∀ i, i < k → gn i = 0 ∧ gs i = 99) → Rj γ mX12_findNear 2 0 0 Post (2, [some (.ref 100), some (.int (nI k)), none, none], [], (SS b c), (mN I gn gs gr), J, 0, 0) := by
  intro j
  induction j with
  | zero =>
    intro k gn gs gr hj hi
    refine r_run okX12_findNear 2 (cs := []) (σ' := (5, [some (.ref 100), some (.int (nI k)), none, none], [.int 8, .int (nI k)], (SS b c), (mN I gn gs gr), J, 0, 0)) rfl trivial ?_
    refine r_icmp okX12_findNear rfl (fun (h5 : (8 : Int32) ≤ (nI k)) => ?_) (fun (h5 : ¬ (8 : Int32) ≤ (nI k)) => ?_)
    · have e : k = 8 := by omega
      subst e
      refine r_weak (L' := [some (.ref 100), none, none, none]) ⟨rfl, trivial⟩ ?_
      exact K gn gs gr hi
    · exact absurd (nI_le (a := 8) (by omega) (by omega)) h5
  | succ j ih =>
    intro k gn gs gr hj hi
    have ck : (nI k).toNatClampNeg = k := nI_clamp (by omega)
    refine r_run okX12_findNear 2 (cs := []) (σ' := (5, [some (.ref 100), some (.int (nI k)), none, none], [.int 8, .int (nI k)], (SS b c), (mN I gn gs gr), J, 0, 0)) rfl trivial ?_
    refine r_icmp okX12_findNear rfl (fun (h5 : (8 : Int32) ≤ (nI k)) => ?_) (fun (h5 : ¬ (8 : Int32) ≤ (nI k)) => ?_)
    · exact absurd h5 (nI_ge (b := 8) (by omega) (by decide))
    · refine r_run okX12_findNear 12 (cs := [vp_in (nI k) 8, vp_in (nI k) 8]) (σ' := (2, [some (.ref 100), some (.int (nI k + 1)), none, none], [], (SS b c), (upI (upI (mN I gn gs gr) 136 ((nI k).toNatClampNeg) 0) 137 ((nI k).toNatClampNeg) 99), J, 0, 0)) rfl ⟨(vin (by omega) (by decide)), (vin (by omega) (by decide)), trivial⟩ ?_
      simp only [ck]
      show Rj _ _ _ _ _ _ (2, [some (.ref 100), some (.int (nI k + 1)), none, none], [], (SS b c), (upI (upI (mN I gn gs gr) 136 k 0) 137 k 99), J, 0, 0)
      rw [mN_n, mN_s, ← nI_succ]
      refine ih (k + 1) _ _ _ (by omega) (fun i hi2 => ?_)
      by_cases e : i = k
      · subst e; exact ⟨upd_t, upd_t⟩
      · rw [upd_f e, upd_f e]; exact hi i (by omega)
theorem lp_N2 (γ : GE) {b c : Bool} {I : AI} {J : AJ} {Post : PT} (t : Nat) (f : Nat → Bool) (ht : t < 720) (et : I 100 5 = nI t) (hm : ∀ x, x < 96 → I 116 (96 * t + x) = bi (f x)) (hL : MLand I) (K : ∀ (gn gs gr : Nat → Int32), ((∀ i, i < 8 → gn i = nI (nrN I f i 96) ∧ gs i = 99) ∧ ∀ i, i < 96 → gr i = bi (f i)) → Rj γ mX12_findNear 2 0 0 Post (96, [some (.ref 100), none, none, none], [], (SS b c), (mN I gn gs gr), J, 0, 0)) : ∀ (j x : Nat) (gn gs gr : Nat → Int32), x + j = 96 → ((∀ i, i < 8 → gn i = nI (nrN I f i x) ∧ gs i = 99) ∧ ∀ i, i < x → gr i = bi (f i)) → Rj γ mX12_findNear 2 0 0 Post (31, [some (.ref 100), some (.int (nI x)), none, none], [], (SS b c), (mN I gn gs gr), J, 0, 0) := by
  intro j
  induction j with
  | zero =>
    intro x gn gs gr hj hi
    refine r_run okX12_findNear 2 (cs := []) (σ' := (34, [some (.ref 100), some (.int (nI x)), none, none], [.int 96, .int (nI x)], (SS b c), (mN I gn gs gr), J, 0, 0)) rfl trivial ?_
    refine r_icmp okX12_findNear rfl (fun (h34 : (96 : Int32) ≤ (nI x)) => ?_) (fun (h34 : ¬ (96 : Int32) ≤ (nI x)) => ?_)
    · have e : x = 96 := by omega
      subst e
      refine r_weak (L' := [some (.ref 100), none, none, none]) ⟨rfl, trivial⟩ ?_
      exact K gn gs gr hi
    · exact absurd (nI_le (a := 96) (by omega) (by omega)) h34
  | succ j ih =>
    intro x gn gs gr hj hi
    have cx : (nI x).toNatClampNeg = x := nI_clamp (by omega)
    have e1 : (96 : Int32) * nI t + nI x = nI (96 * t + x) := mul_add_nI 96 t x
    have ct : ((96 : Int32) * (mN I gn gs gr) 100 5 + nI x).toNatClampNeg = 96 * t + x := by show ((96 : Int32) * I 100 5 + nI x).toNatClampNeg = _; rw [et, e1]; exact nI_clamp (by omega)
    have vt : vp_in ((96 : Int32) * (mN I gn gs gr) 100 5 + nI x) 69120 := by show vp_in ((96 : Int32) * I 100 5 + nI x) 69120; rw [et, e1]; exact vin (by omega) (by decide)
    have rm : (mN I gn gs gr) 116 (96 * t + x) = bi (f x) := hm x (by omega)
    obtain ⟨⟨y, hy, ey⟩, -⟩ := hL x (by omega)
    have ry : (mN I gn gs gr) 101 x = nI y := ey
    have cy : (nI y).toNatClampNeg = y := nI_clamp (by omega)
    have rg1 : (mN I gn gs gr) 136 y = gn y := rfl
    have vy : vp_in ((mN I gn gs gr) 101 (nI x).toNatClampNeg) 8 := by rw [cx, ry]; exact vin hy (by decide)
    have hbz : bz ((mN I gn gs gr) 116 ((96 : Int32) * (mN I gn gs gr) 100 5 + nI x).toNatClampNeg) := by rw [ct, rm]; exact bi_bz _
    refine r_run okX12_findNear 2 (cs := []) (σ' := (34, [some (.ref 100), some (.int (nI x)), none, none], [.int 96, .int (nI x)], (SS b c), (mN I gn gs gr), J, 0, 0)) rfl trivial ?_
    refine r_icmp okX12_findNear rfl (fun (h34 : (96 : Int32) ≤ (nI x)) => ?_) (fun (h34 : ¬ (96 : Int32) ≤ (nI x)) => ?_)
    · exact absurd h34 (nI_ge (b := 96) (by omega) (by decide))
    · refine r_run okX12_findNear 17 (cs := [vp_in ((96 * ((mN I gn gs gr) 100 5)) + (nI x)) 69120, vp_in (nI x) 192, bz ((mN I gn gs gr) 116 (((96 * ((mN I gn gs gr) 100 5)) + (nI x)).toNatClampNeg)), vp_in (nI x) 192]) (σ' := (63, [some (.ref 100), some (.int (nI x)), none, none], [.int ((upI (mN I gn gs gr) 138 ((nI x).toNatClampNeg) ((mN I gn gs gr) 116 (((96 * ((mN I gn gs gr) 100 5)) + (nI x)).toNatClampNeg))) 138 ((nI x).toNatClampNeg))], (SS b c), (upI (mN I gn gs gr) 138 ((nI x).toNatClampNeg) ((mN I gn gs gr) 116 (((96 * ((mN I gn gs gr) 100 5)) + (nI x)).toNatClampNeg))), J, 0, 0)) rfl ⟨vt, (vin (by omega) (by decide)), hbz, (vin (by omega) (by decide)), trivial⟩ ?_
      simp only [cx, ct, rm, upI_self]
      show Rj _ _ _ _ _ _ (63, [some (.ref 100), some (.int (nI x)), none, none], [.int (bi (f x))], (SS b c), (upI (mN I gn gs gr) 138 x (bi (f x))), J, 0, 0)
      refine r_ifc okX12_findNear rfl (fun (h63 : (bi (f x)) = (0 : Int32)) => ?_) (fun (h63 : ¬ (bi (f x)) = (0 : Int32)) => ?_)
      · have hs := bi_0.mp h63
        refine r_run okX12_findNear 2 (cs := []) (σ' := (31, [some (.ref 100), some (.int (nI x + 1)), none, none], [], (SS b c), (upI (mN I gn gs gr) 138 x (bi (f x))), J, 0, 0)) rfl trivial ?_
        rw [mN_r, ← nI_succ]
        refine ih (x + 1) _ _ _ (by omega) ⟨fun i hi2 => ⟨?_, (hi.1 i hi2).2⟩, fun i hi2 => ?_⟩
        · rw [(hi.1 i hi2).1, nrN, nrN, cnt, hs]; rfl
        · by_cases e : i = x
          · subst e; exact upd_t
          · rw [upd_f e]; exact hi.2 i (by omega)
      · have hs := bi_n0.mp h63
        refine r_run okX12_findNear 18 (cs := [vp_in (nI x) 96, vp_in (nI x) 96, vp_in ((mN I gn gs gr) 101 ((nI x).toNatClampNeg)) 8, vp_in ((mN I gn gs gr) 101 ((nI x).toNatClampNeg)) 8]) (σ' := (31, [some (.ref 100), some (.int (nI x + 1)), none, none], [], (SS b c), (upI (upI (mN I gn gs gr) 138 x (bi (f x))) 136 (((mN I gn gs gr) 101 ((nI x).toNatClampNeg)).toNatClampNeg) (((mN I gn gs gr) 136 (((mN I gn gs gr) 101 ((nI x).toNatClampNeg)).toNatClampNeg)) + 1)), J, 0, 0)) rfl ⟨(vin (by omega) (by decide)), (vin (by omega) (by decide)), vy, vy, trivial⟩ ?_
        simp only [cx, ry, cy]
        show Rj _ _ _ _ _ _ (31, [some (.ref 100), some (.int (nI x + 1)), none, none], [], (SS b c), (upI (upI (mN I gn gs gr) 138 x (bi (f x))) 136 (y) (((mN I gn gs gr) 136 (y)) + 1)), J, 0, 0)
        rw [mN_r, mN_n, ← nI_succ]
        refine ih (x + 1) _ _ _ (by omega) ⟨fun i hi2 => ⟨?_, (hi.1 i hi2).2⟩, fun i hi2 => ?_⟩
        · by_cases e : i = y
          · subst e
            rw [upd_t, rg1, (hi.1 i hi2).1, ← nI_succ, nrN, nrN, cnt, hs, show cyB I i x = true from decide_eq_true ey]; rfl
          · rw [upd_f e, (hi.1 i hi2).1, nrN, nrN, cnt, hs, show cyB I i x = false from decide_eq_false (by rw [ey]; intro q; exact e (nI_inj (by omega) (by omega) q.symm))]; rfl
        · by_cases e : i = x
          · subst e; exact upd_t
          · rw [upd_f e]; exact hi.2 i (by omega)
theorem lp_N3 (γ : GE) {b c : Bool} {I : AI} {J : AJ} {Post : PT} (s : Nat) (A B : Nat → Int32) (fr : Nat → Bool) (K : ∀ (gn gs gr : Nat → Int32), ((∀ i, i < 8 → gn i = A i ∧ gs i = B i) ∧ (∀ i, i < 96 → gr i = bi (fr i)) ∧ ∀ i, i < 96 → gr (96 + i) = 0) → Rj γ mX12_findNear 2 0 0 Post (128, [some (.ref 100), some (.int (nI s)), none, none], [], (SS b c), (mN I gn gs gr), J, 0, 0)) : ∀ (j x : Nat) (gn gs gr : Nat → Int32), x + j = 96 → ((∀ i, i < 8 → gn i = A i ∧ gs i = B i) ∧ (∀ i, i < 96 → gr i = bi (fr i)) ∧ ∀ i, i < x → gr (96 + i) = 0) → Rj γ mX12_findNear 2 0 0 Post (106, [some (.ref 100), some (.int (nI s)), some (.int (nI x)), none], [], (SS b c), (mN I gn gs gr), J, 0, 0) := by
  intro j
  induction j with
  | zero =>
    intro x gn gs gr hj hi
    refine r_run okX12_findNear 2 (cs := []) (σ' := (109, [some (.ref 100), some (.int (nI s)), some (.int (nI x)), none], [.int 96, .int (nI x)], (SS b c), (mN I gn gs gr), J, 0, 0)) rfl trivial ?_
    refine r_icmp okX12_findNear rfl (fun (h109 : (96 : Int32) ≤ (nI x)) => ?_) (fun (h109 : ¬ (96 : Int32) ≤ (nI x)) => ?_)
    · have e : x = 96 := by omega
      subst e
      refine r_weak (L' := [some (.ref 100), some (.int (nI s)), none, none]) ⟨rfl, rfl, trivial⟩ ?_
      exact K gn gs gr hi
    · exact absurd (nI_le (a := 96) (by omega) (by omega)) h109
  | succ j ih =>
    intro x gn gs gr hj hi
    have e96 : (96 : Int32) + nI x = nI (96 + x) := nI_add 96 x
    have c96 : ((96 : Int32) + nI x).toNatClampNeg = 96 + x := by rw [e96]; exact nI_clamp (by omega)
    have v96 : vp_in ((96 : Int32) + nI x) 192 := by rw [e96]; exact vin (by omega) (by decide)
    refine r_run okX12_findNear 2 (cs := []) (σ' := (109, [some (.ref 100), some (.int (nI s)), some (.int (nI x)), none], [.int 96, .int (nI x)], (SS b c), (mN I gn gs gr), J, 0, 0)) rfl trivial ?_
    refine r_icmp okX12_findNear rfl (fun (h109 : (96 : Int32) ≤ (nI x)) => ?_) (fun (h109 : ¬ (96 : Int32) ≤ (nI x)) => ?_)
    · exact absurd h109 (nI_ge (b := 96) (by omega) (by decide))
    · refine r_run okX12_findNear 9 (cs := [vp_in (96 + (nI x)) 192, bz 0]) (σ' := (106, [some (.ref 100), some (.int (nI s)), some (.int (nI x + 1)), none], [], (SS b c), (upI (mN I gn gs gr) 138 ((96 + (nI x)).toNatClampNeg) 0), J, 0, 0)) rfl ⟨v96, (Or.inl rfl), trivial⟩ ?_
      simp only [c96]
      show Rj _ _ _ _ _ _ (106, [some (.ref 100), some (.int (nI s)), some (.int (nI x + 1)), none], [], (SS b c), (upI (mN I gn gs gr) 138 (96 + x) 0), J, 0, 0)
      rw [mN_r, ← nI_succ]
      refine ih (x + 1) _ _ _ (by omega) ⟨hi.1, fun i hi2 => ?_, fun i hi2 => ?_⟩
      · rw [upd_f (by omega)]; exact hi.2.1 i hi2
      · by_cases e : i = x
        · subst e; exact upd_t
        · rw [upd_f (by omega)]; exact hi.2.2 i (by omega)
theorem lp_N4 (γ : GE) {b c : Bool} {I : AI} {J : AJ} {Post : PT} (s x : Nat) (hx : x < 96) (A B : Nat → Int32) (fr g : Nat → Bool) (K : ∀ (gn gs gr : Nat → Int32), ((∀ i, i < 8 → gn i = A i ∧ gs i = B i) ∧ (∀ i, i < 96 → gr i = bi (fr i)) ∧ ∀ i, i < 96 → gr (96 + i) = bi (g i || goesN (I 100 6) x 9 i)) → Rj γ mX12_findNear 2 0 0 Post (226, [some (.ref 100), some (.int (nI s)), some (.int (nI x)), none], [], (SS b c), (mN I gn gs gr), J, 0, 0)) : ∀ (j q : Nat) (gn gs gr : Nat → Int32), q + j = 9 → ((∀ i, i < 8 → gn i = A i ∧ gs i = B i) ∧ (∀ i, i < 96 → gr i = bi (fr i)) ∧ ∀ i, i < 96 → gr (96 + i) = bi (g i || goesN (I 100 6) x q i)) → Rj γ mX12_findNear 2 0 0 Post (177, [some (.ref 100), some (.int (nI s)), some (.int (nI x)), some (.int (nI q))], [], (SS b c), (mN I gn gs gr), J, 0, 0) := by
  intro j
  induction j with
  | zero =>
    intro q gn gs gr hj hi
    refine r_run okX12_findNear 2 (cs := []) (σ' := (180, [some (.ref 100), some (.int (nI s)), some (.int (nI x)), some (.int (nI q))], [.int 9, .int (nI q)], (SS b c), (mN I gn gs gr), J, 0, 0)) rfl trivial ?_
    refine r_icmp okX12_findNear rfl (fun (h180 : (9 : Int32) ≤ (nI q)) => ?_) (fun (h180 : ¬ (9 : Int32) ≤ (nI q)) => ?_)
    · have e : q = 9 := by omega
      subst e
      refine r_weak (L' := [some (.ref 100), some (.int (nI s)), some (.int (nI x)), none]) ⟨rfl, rfl, rfl, trivial⟩ ?_
      exact K gn gs gr hi
    · exact absurd (nI_le (a := 9) (by omega) (by omega)) h180
  | succ j ih =>
    intro q gn gs gr hj hi
    have r6 : (mN I gn gs gr) 100 6 = I 100 6 := rfl
    refine r_run okX12_findNear 2 (cs := []) (σ' := (180, [some (.ref 100), some (.int (nI s)), some (.int (nI x)), some (.int (nI q))], [.int 9, .int (nI q)], (SS b c), (mN I gn gs gr), J, 0, 0)) rfl trivial ?_
    refine r_icmp okX12_findNear rfl (fun (h180 : (9 : Int32) ≤ (nI q)) => ?_) (fun (h180 : ¬ (9 : Int32) ≤ (nI q)) => ?_)
    · exact absurd h180 (nI_ge (b := 9) (by omega) (by decide))
    · refine r_run okX12_findNear 7 (cs := []) (σ' := (192, [some (.ref 100), some (.int (nI s)), some (.int (nI x)), some (.int (nI q))], [.int 1, .int ((((mN I gn gs gr) 100 6) >>> ((nI q) &&& 31)) &&& 1)], (SS b c), (mN I gn gs gr), J, 0, 0)) rfl trivial ?_
      simp only [r6]
      show Rj _ _ _ _ _ _ (192, [some (.ref 100), some (.int (nI s)), some (.int (nI x)), some (.int (nI q))], [.int 1, .int (((I 100 6) >>> ((nI q) &&& 31)) &&& 1)], (SS b c), (mN I gn gs gr), J, 0, 0)
      refine r_icmp okX12_findNear rfl (fun (h192 : ¬ (((I 100 6) >>> ((nI q) &&& 31)) &&& 1) = (1 : Int32)) => ?_) (fun h1920 => ?_)
      · have hon : mvOn (I 100 6) q = false := by simp [mvOn, h192]
        refine r_run okX12_findNear 2 (cs := []) (σ' := (177, [some (.ref 100), some (.int (nI s)), some (.int (nI x)), some (.int (nI q + 1))], [], (SS b c), (mN I gn gs gr), J, 0, 0)) rfl trivial ?_
        rw [← nI_succ]
        refine ih (q + 1) _ _ _ (by omega) ⟨hi.1, hi.2.1, fun i hi2 => ?_⟩
        rw [hi.2.2 i hi2]; simp [goesN, any_s, *]
      · have h192 : (((I 100 6) >>> ((nI q) &&& 31)) &&& 1) = (1 : Int32) := Classical.not_not.mp h1920
        have hon : mvOn (I 100 6) q = true := by simp [mvOn, h192]
        refine r_run okX12_findNear 3 (cs := []) (σ' := (198, [some (.ref 100), some (.int (nI s)), some (.int (nI x)), some (.int (nI q))], [.int (nI q), .int (nI x), .ref 100], (SS b c), (mN I gn gs gr), J, 0, 0)) rfl trivial ?_
        refine r_callV okX12_findNear okX12_moved [.int (nI x), .int (nI q)] [] 100 rfl rfl rfl kkX12_moved rfl rfl (by decide) rfl rfl rfl (by decide) ⟨Nat.le_refl _, Nat.le_refl _⟩ (Nat.le_of_ble_eq_true rfl) (c_moved0 γ x q hx (by omega)) (fun v1 S1 I1 J1 hp => ?_)
        obtain ⟨rfl, rfl, rfl, rfl⟩ := hp
        show Rj _ _ _ _ _ _ (201, [some (.ref 100), some (.int (nI s)), some (.int (nI x)), some (.int (nI q))], [.int (movI x q)], (SS b c), (mN I gn gs gr), J, 0, 0)
        refine r_run okX12_findNear 1 (cs := []) (σ' := (202, [some (.ref 100), some (.int (nI s)), some (.int (nI x)), some (.int (nI q))], [.int (-1), .int (movI x q)], (SS b c), (mN I gn gs gr), J, 0, 0)) rfl trivial ?_
        refine r_icmp okX12_findNear rfl (fun (h202 : (movI x q) = ((-1) : Int32)) => ?_) (fun (h202 : ¬ (movI x q) = ((-1) : Int32)) => ?_)
        · have hok : mvOK x q = false := by
            cases e : mvOK x q with
            | false => rfl
            | true =>
              unfold movI at h202
              rw [e, if_pos rfl] at h202
              exact absurd h202 (nI_m1 (by have := ((mv_dec x hx q (by omega)).2 e).2; omega))
          refine r_run okX12_findNear 2 (cs := []) (σ' := (177, [some (.ref 100), some (.int (nI s)), some (.int (nI x)), some (.int (nI q + 1))], [], (SS b c), (mN I gn gs gr), J, 0, 0)) rfl trivial ?_
          rw [← nI_succ]
          refine ih (q + 1) _ _ _ (by omega) ⟨hi.1, hi.2.1, fun i hi2 => ?_⟩
          rw [hi.2.2 i hi2]; simp [goesN, any_s, *]
        · have hok : mvOK x q = true := by
            cases e : mvOK x q with
            | true => rfl
            | false => exact absurd (by unfold movI; rw [e]; rfl) h202
          have ez : movI x q = nI (mvT x q) := by unfold movI; rw [hok]; rfl
          have hz : mvT x q < 96 := ((mv_dec x hx q (by omega)).2 hok).2
          have e1 : (96 : Int32) + movI x q = nI (96 + mvT x q) := by rw [ez]; exact nI_add 96 _
          have cz : ((96 : Int32) + movI x q).toNatClampNeg = 96 + mvT x q := by rw [e1]; exact nI_clamp (by omega)
          have vz : vp_in ((96 : Int32) + movI x q) 192 := by rw [e1]; exact vin (by omega) (by decide)
          refine r_run okX12_findNear 6 (cs := []) (σ' := (214, [some (.ref 100), some (.int (nI s)), some (.int (nI x)), some (.int (nI q))], [.int (nI q), .int (nI x), .ref 100, .int 96, .ref 138], (SS b c), (mN I gn gs gr), J, 0, 0)) rfl trivial ?_
          refine r_callV okX12_findNear okX12_moved [.int (nI x), .int (nI q)] [.int 96, .ref 138] 100 rfl rfl rfl kkX12_moved rfl rfl (by decide) rfl rfl rfl (by decide) ⟨Nat.le_refl _, Nat.le_refl _⟩ (Nat.le_of_ble_eq_true rfl) (c_moved0 γ x q hx (by omega)) (fun v1 S1 I1 J1 hp => ?_)
          obtain ⟨rfl, rfl, rfl, rfl⟩ := hp
          show Rj _ _ _ _ _ _ (217, [some (.ref 100), some (.int (nI s)), some (.int (nI x)), some (.int (nI q))], [.int (movI x q), .int 96, .ref 138], (SS b c), (mN I gn gs gr), J, 0, 0)
          refine r_run okX12_findNear 5 (cs := [vp_in (96 + (movI x q)) 192, bz 1]) (σ' := (177, [some (.ref 100), some (.int (nI s)), some (.int (nI x)), some (.int (nI q + 1))], [], (SS b c), (upI (mN I gn gs gr) 138 ((96 + (movI x q)).toNatClampNeg) 1), J, 0, 0)) rfl ⟨vz, (Or.inr rfl), trivial⟩ ?_
          simp only [cz]
          show Rj _ _ _ _ _ _ (177, [some (.ref 100), some (.int (nI s)), some (.int (nI x)), some (.int (nI q + 1))], [], (SS b c), (upI (mN I gn gs gr) 138 (96 + mvT x q) 1), J, 0, 0)
          rw [mN_r, ← nI_succ]
          refine ih (q + 1) _ _ _ (by omega) ⟨hi.1, fun i hi2 => ?_, fun i hi2 => ?_⟩
          · rw [upd_f (by omega)]; exact hi.2.1 i hi2
          · by_cases e : i = mvT x q
            · subst e; rw [upd_t]; simp [goesN, any_s, hon, hok, bi_t]
            · rw [upd_f (by omega), hi.2.2 i hi2]; simp [goesN, any_s, Ne.symm e]
theorem lp_N5 (γ : GE) {b c : Bool} {I : AI} {J : AJ} {Post : PT} (s : Nat) (A B : Nat → Int32) (fr : Nat → Bool) (hL : MLand I) (K : ∀ (gn gs gr : Nat → Int32), ((∀ i, i < 8 → gn i = A i ∧ gs i = sooQ I fr i (nI s) (B i) 96) ∧ (∀ i, i < 96 → gr i = bi (fr i)) ∧ ∀ i, i < 96 → gr (96 + i) = bi (fromN (I 100 6) fr 96 i)) → Rj γ mX12_findNear 2 0 0 Post (232, [some (.ref 100), some (.int (nI s)), none, none], [], (SS b c), (mN I gn gs gr), J, 0, 0)) : ∀ (j x : Nat) (gn gs gr : Nat → Int32), x + j = 96 → ((∀ i, i < 8 → gn i = A i ∧ gs i = sooQ I fr i (nI s) (B i) x) ∧ (∀ i, i < 96 → gr i = bi (fr i)) ∧ ∀ i, i < 96 → gr (96 + i) = bi (fromN (I 100 6) fr x i)) → Rj γ mX12_findNear 2 0 0 Post (130, [some (.ref 100), some (.int (nI s)), some (.int (nI x)), none], [], (SS b c), (mN I gn gs gr), J, 0, 0) := by
  intro j
  induction j with
  | zero =>
    intro x gn gs gr hj hi
    refine r_run okX12_findNear 2 (cs := []) (σ' := (133, [some (.ref 100), some (.int (nI s)), some (.int (nI x)), none], [.int 96, .int (nI x)], (SS b c), (mN I gn gs gr), J, 0, 0)) rfl trivial ?_
    refine r_icmp okX12_findNear rfl (fun (h133 : (96 : Int32) ≤ (nI x)) => ?_) (fun (h133 : ¬ (96 : Int32) ≤ (nI x)) => ?_)
    · have e : x = 96 := by omega
      subst e
      refine r_weak (L' := [some (.ref 100), some (.int (nI s)), none, none]) ⟨rfl, rfl, trivial⟩ ?_
      exact K gn gs gr hi
    · exact absurd (nI_le (a := 96) (by omega) (by omega)) h133
  | succ j ih =>
    intro x gn gs gr hj hi
    have cx : (nI x).toNatClampNeg = x := nI_clamp (by omega)
    have rx : (mN I gn gs gr) 138 x = bi (fr x) := hi.2.1 x (by omega)
    obtain ⟨⟨y, hy, ey⟩, -⟩ := hL x (by omega)
    have ry : (mN I gn gs gr) 101 x = nI y := ey
    have cy : (nI y).toNatClampNeg = y := nI_clamp (by omega)
    have rs : (mN I gn gs gr) 137 y = gs y := rfl
    have vy : vp_in ((mN I gn gs gr) 101 (nI x).toNatClampNeg) 8 := by rw [cx, ry]; exact vin hy (by decide)
    have hh : ∀ i, hitN I fr i (x + 1) = (hitN I fr i x || (fr x && cyB I i x)) := fun i => by rw [hitN, hitN, any_s]
    refine r_run okX12_findNear 2 (cs := []) (σ' := (133, [some (.ref 100), some (.int (nI s)), some (.int (nI x)), none], [.int 96, .int (nI x)], (SS b c), (mN I gn gs gr), J, 0, 0)) rfl trivial ?_
    refine r_icmp okX12_findNear rfl (fun (h133 : (96 : Int32) ≤ (nI x)) => ?_) (fun (h133 : ¬ (96 : Int32) ≤ (nI x)) => ?_)
    · exact absurd h133 (nI_ge (b := 96) (by omega) (by decide))
    · refine r_run okX12_findNear 4 (cs := [vp_in (nI x) 192]) (σ' := (142, [some (.ref 100), some (.int (nI s)), some (.int (nI x)), none], [.int ((mN I gn gs gr) 138 ((nI x).toNatClampNeg))], (SS b c), (mN I gn gs gr), J, 0, 0)) rfl ⟨(vin (by omega) (by decide)), trivial⟩ ?_
      simp only [cx, rx]
      show Rj _ _ _ _ _ _ (142, [some (.ref 100), some (.int (nI s)), some (.int (nI x)), none], [.int (bi (fr x))], (SS b c), (mN I gn gs gr), J, 0, 0)
      refine r_ifc okX12_findNear rfl (fun (h142 : ¬ (bi (fr x)) = (0 : Int32)) => ?_) (fun h1420 => ?_)
      · have hs := bi_n0.mp h142
        refine r_run okX12_findNear 8 (cs := [vp_in (nI x) 96, vp_in ((mN I gn gs gr) 101 ((nI x).toNatClampNeg)) 8]) (σ' := (160, [some (.ref 100), some (.int (nI s)), some (.int (nI x)), none], [.int ((mN I gn gs gr) 137 (((mN I gn gs gr) 101 ((nI x).toNatClampNeg)).toNatClampNeg)), .int (nI s)], (SS b c), (mN I gn gs gr), J, 0, 0)) rfl ⟨(vin (by omega) (by decide)), vy, trivial⟩ ?_
        simp only [cx, ry, cy]
        show Rj _ _ _ _ _ _ (160, [some (.ref 100), some (.int (nI s)), some (.int (nI x)), none], [.int ((mN I gn gs gr) 137 (y)), .int (nI s)], (SS b c), (mN I gn gs gr), J, 0, 0)
        refine r_icmp okX12_findNear rfl (fun (h160 : ((mN I gn gs gr) 137 (y)) ≤ (nI s)) => ?_) (fun (h160 : ¬ ((mN I gn gs gr) 137 (y)) ≤ (nI s)) => ?_)
        · refine r_run okX12_findNear 2 (cs := []) (σ' := (177, [some (.ref 100), some (.int (nI s)), some (.int (nI x)), some (.int 0)], [], (SS b c), (mN I gn gs gr), J, 0, 0)) rfl trivial ?_
          have h := lp_N4 γ (b := b) (c := c) (I := I) (J := J) (Post := Post) s x (by omega) A (fun i => sooQ I fr i (nI s) (B i) (x + 1)) fr (fun i => fromN (I 100 6) fr x i) (fun gn gs gr hq => ?_) 9 0 gn gs gr rfl ⟨fun i hi2 => ⟨(hi.1 i hi2).1, ?_⟩, hi.2.1, fun i hi2 => by rw [hi.2.2 i hi2]; simp [goesN]⟩
          · rw [nI_0] at h
            exact h
          · refine r_run okX12_findNear 2 (cs := []) (σ' := (130, [some (.ref 100), some (.int (nI s)), some (.int (nI x + 1)), none], [], (SS b c), (mN I gn gs gr), J, 0, 0)) rfl trivial ?_
            rw [← nI_succ]
            refine ih (x + 1) _ _ _ (by omega) ⟨fun i hi2 => ⟨(hq.1 i hi2).1, (hq.1 i hi2).2⟩, hq.2.1, fun i hi2 => ?_⟩
            rw [hq.2.2 i hi2]; simp [fromN, any_s, hs]
          · show _ = sooQ I fr i (nI s) (B i) (x + 1)
            have h1 := (hi.1 i hi2).2
            by_cases e : i = y
            · subst e
              rw [rs, h1] at h160
              rw [h1]
              unfold sooQ at h160 ⊢
              rw [hh, hs, show cyB I i x = true from decide_eq_true ey]
              by_cases hc : (hitN I fr i x && decide (nI s < B i)) = true
              · rw [if_pos hc, if_pos (by rw [Bool.and_eq_true] at hc; rw [hc.1, hc.2]; rfl)]
              · rw [if_neg hc] at h160 ⊢; rw [if_neg (by simp [Int32.not_lt.mpr h160])]
            · rw [h1]
              unfold sooQ
              rw [hh, hs, show cyB I i x = false from decide_eq_false (by rw [ey]; intro q; exact e (nI_inj (by omega) (by omega) q.symm))]
              simp
        · refine r_run okX12_findNear 10 (cs := [vp_in (nI x) 96, vp_in ((mN I gn gs gr) 101 ((nI x).toNatClampNeg)) 8]) (σ' := (177, [some (.ref 100), some (.int (nI s)), some (.int (nI x)), some (.int 0)], [], (SS b c), (upI (mN I gn gs gr) 137 (((mN I gn gs gr) 101 ((nI x).toNatClampNeg)).toNatClampNeg) (nI s)), J, 0, 0)) rfl ⟨(vin (by omega) (by decide)), vy, trivial⟩ ?_
          simp only [cx, ry, cy]
          show Rj _ _ _ _ _ _ (177, [some (.ref 100), some (.int (nI s)), some (.int (nI x)), some (.int 0)], [], (SS b c), (upI (mN I gn gs gr) 137 (y) (nI s)), J, 0, 0)
          rw [mN_s]
          have h := lp_N4 γ (b := b) (c := c) (I := I) (J := J) (Post := Post) s x (by omega) A (fun i => sooQ I fr i (nI s) (B i) (x + 1)) fr (fun i => fromN (I 100 6) fr x i) (fun gn gs gr hq => ?_) 9 0 gn (upd gs y (nI s)) gr rfl ⟨fun i hi2 => ⟨(hi.1 i hi2).1, ?_⟩, hi.2.1, fun i hi2 => by rw [hi.2.2 i hi2]; simp [goesN]⟩
          · rw [nI_0] at h
            exact h
          · refine r_run okX12_findNear 2 (cs := []) (σ' := (130, [some (.ref 100), some (.int (nI s)), some (.int (nI x + 1)), none], [], (SS b c), (mN I gn gs gr), J, 0, 0)) rfl trivial ?_
            rw [← nI_succ]
            refine ih (x + 1) _ _ _ (by omega) ⟨fun i hi2 => ⟨(hq.1 i hi2).1, (hq.1 i hi2).2⟩, hq.2.1, fun i hi2 => ?_⟩
            rw [hq.2.2 i hi2]; simp [fromN, any_s, hs]
          · show _ = sooQ I fr i (nI s) (B i) (x + 1)
            by_cases e : i = y
            · subst e
              rw [upd_t]
              have h1 := (hi.1 i hi2).2
              rw [rs, h1] at h160
              unfold sooQ at h160 ⊢
              rw [hh, hs, show cyB I i x = true from decide_eq_true ey]
              by_cases hc : (hitN I fr i x && decide (nI s < B i)) = true
              · rw [if_pos hc] at h160; exact absurd (Int32.not_le.mp h160) Int32.lt_irrefl
              · rw [if_neg hc] at h160; rw [if_pos (by simp [Int32.not_le.mp h160])]
            · rw [upd_f e, (hi.1 i hi2).2]
              unfold sooQ
              rw [hh, hs, show cyB I i x = false from decide_eq_false (by rw [ey]; intro q; exact e (nI_inj (by omega) (by omega) q.symm))]
              simp
      · have h142 : (bi (fr x)) = (0 : Int32) := Classical.not_not.mp h1420
        have hs := bi_0.mp h142
        refine r_run okX12_findNear 3 (cs := []) (σ' := (130, [some (.ref 100), some (.int (nI s)), some (.int (nI x + 1)), none], [], (SS b c), (mN I gn gs gr), J, 0, 0)) rfl trivial ?_
        rw [← nI_succ]
        refine ih (x + 1) _ _ _ (by omega) ⟨fun i hi2 => ⟨(hi.1 i hi2).1, ?_⟩, hi.2.1, fun i hi2 => ?_⟩
        · rw [(hi.1 i hi2).2]; simp [sooQ, hitN, any_s, hs]
        · rw [hi.2.2 i hi2]; simp [fromN, any_s, hs]
theorem lp_N6 (γ : GE) {b c : Bool} {I : AI} {J : AJ} {Post : PT} (s : Nat) (A B : Nat → Int32) (g : Nat → Bool) (K : ∀ (gn gs gr : Nat → Int32), ((∀ i, i < 8 → gn i = A i ∧ gs i = B i) ∧ (∀ i, i < 96 → gr i = bi (g i)) ∧ ∀ i, i < 96 → gr (96 + i) = bi (g i)) → Rj γ mX12_findNear 2 0 0 Post (261, [some (.ref 100), some (.int (nI s)), none, none], [], (SS b c), (mN I gn gs gr), J, 0, 0)) : ∀ (j x : Nat) (gn gs gr : Nat → Int32), x + j = 96 → ((∀ i, i < 8 → gn i = A i ∧ gs i = B i) ∧ (∀ i, i < x → gr i = bi (g i)) ∧ ∀ i, i < 96 → gr (96 + i) = bi (g i)) → Rj γ mX12_findNear 2 0 0 Post (234, [some (.ref 100), some (.int (nI s)), some (.int (nI x)), none], [], (SS b c), (mN I gn gs gr), J, 0, 0) := by
  intro j
  induction j with
  | zero =>
    intro x gn gs gr hj hi
    refine r_run okX12_findNear 2 (cs := []) (σ' := (237, [some (.ref 100), some (.int (nI s)), some (.int (nI x)), none], [.int 96, .int (nI x)], (SS b c), (mN I gn gs gr), J, 0, 0)) rfl trivial ?_
    refine r_icmp okX12_findNear rfl (fun (h237 : (96 : Int32) ≤ (nI x)) => ?_) (fun (h237 : ¬ (96 : Int32) ≤ (nI x)) => ?_)
    · have e : x = 96 := by omega
      subst e
      refine r_weak (L' := [some (.ref 100), some (.int (nI s)), none, none]) ⟨rfl, rfl, trivial⟩ ?_
      exact K gn gs gr hi
    · exact absurd (nI_le (a := 96) (by omega) (by omega)) h237
  | succ j ih =>
    intro x gn gs gr hj hi
    have e96 : (96 : Int32) + nI x = nI (96 + x) := nI_add 96 x
    have c96 : ((96 : Int32) + nI x).toNatClampNeg = 96 + x := by rw [e96]; exact nI_clamp (by omega)
    have v96 : vp_in ((96 : Int32) + nI x) 192 := by rw [e96]; exact vin (by omega) (by decide)
    have cx : (nI x).toNatClampNeg = x := nI_clamp (by omega)
    have rx : (mN I gn gs gr) 138 (96 + x) = bi (g x) := hi.2.2 x (by omega)
    have hbz : bz ((mN I gn gs gr) 138 ((96 : Int32) + nI x).toNatClampNeg) := by rw [c96, rx]; exact bi_bz _
    refine r_run okX12_findNear 2 (cs := []) (σ' := (237, [some (.ref 100), some (.int (nI s)), some (.int (nI x)), none], [.int 96, .int (nI x)], (SS b c), (mN I gn gs gr), J, 0, 0)) rfl trivial ?_
    refine r_icmp okX12_findNear rfl (fun (h237 : (96 : Int32) ≤ (nI x)) => ?_) (fun (h237 : ¬ (96 : Int32) ≤ (nI x)) => ?_)
    · exact absurd h237 (nI_ge (b := 96) (by omega) (by decide))
    · refine r_run okX12_findNear 12 (cs := [vp_in (96 + (nI x)) 192, vp_in (nI x) 192, bz ((mN I gn gs gr) 138 ((96 + (nI x)).toNatClampNeg))]) (σ' := (234, [some (.ref 100), some (.int (nI s)), some (.int (nI x + 1)), none], [], (SS b c), (upI (mN I gn gs gr) 138 ((nI x).toNatClampNeg) ((mN I gn gs gr) 138 ((96 + (nI x)).toNatClampNeg))), J, 0, 0)) rfl ⟨v96, (vin (by omega) (by decide)), hbz, trivial⟩ ?_
      simp only [c96, cx, rx]
      show Rj _ _ _ _ _ _ (234, [some (.ref 100), some (.int (nI s)), some (.int (nI x + 1)), none], [], (SS b c), (upI (mN I gn gs gr) 138 x (bi (g x))), J, 0, 0)
      rw [mN_r, ← nI_succ]
      refine ih (x + 1) _ _ _ (by omega) ⟨hi.1, fun i hi2 => ?_, fun i hi2 => ?_⟩
      · by_cases e : i = x
        · subst e; exact upd_t
        · rw [upd_f e]; exact hi.2.1 i (by omega)
      · rw [upd_f (by omega)]; exact hi.2.2 i hi2
theorem lp_N7 (γ : GE) {b c : Bool} {I : AI} {J : AJ} {Post : PT} (A : Nat → Int32) (f : Nat → Bool) (hL : MLand I) (K : ∀ (gn gs gr : Nat → Int32), ((∀ i, i < 8 → gn i = A i ∧ gs i = sooN I f i 13) ∧ ∀ i, i < 96 → gr i = bi (rchN (I 100 6) f 13 i)) → Rj γ mX12_findNear 2 0 0 Post (267, [some (.ref 100), none, none, none], [], (SS b c), (mN I gn gs gr), J, 0, 0)) : ∀ (j s : Nat) (gn gs gr : Nat → Int32), s + j = 13 → ((∀ i, i < 8 → gn i = A i ∧ gs i = sooN I f i s) ∧ ∀ i, i < 96 → gr i = bi (rchN (I 100 6) f s i)) → Rj γ mX12_findNear 2 0 0 Post (98, [some (.ref 100), some (.int (nI s)), none, none], [], (SS b c), (mN I gn gs gr), J, 0, 0) := by
  intro j
  induction j with
  | zero =>
    intro s gn gs gr hj hi
    refine r_run okX12_findNear 2 (cs := []) (σ' := (101, [some (.ref 100), some (.int (nI s)), none, none], [.int 13, .int (nI s)], (SS b c), (mN I gn gs gr), J, 0, 0)) rfl trivial ?_
    refine r_icmp okX12_findNear rfl (fun (h101 : (13 : Int32) ≤ (nI s)) => ?_) (fun (h101 : ¬ (13 : Int32) ≤ (nI s)) => ?_)
    · have e : s = 13 := by omega
      subst e
      refine r_weak (L' := [some (.ref 100), none, none, none]) ⟨rfl, trivial⟩ ?_
      exact K gn gs gr hi
    · exact absurd (nI_le (a := 13) (by omega) (by omega)) h101
  | succ j ih =>
    intro s gn gs gr hj hi
    refine r_run okX12_findNear 2 (cs := []) (σ' := (101, [some (.ref 100), some (.int (nI s)), none, none], [.int 13, .int (nI s)], (SS b c), (mN I gn gs gr), J, 0, 0)) rfl trivial ?_
    refine r_icmp okX12_findNear rfl (fun (h101 : (13 : Int32) ≤ (nI s)) => ?_) (fun (h101 : ¬ (13 : Int32) ≤ (nI s)) => ?_)
    · exact absurd h101 (nI_ge (b := 13) (by omega) (by decide))
    · refine r_run okX12_findNear 2 (cs := []) (σ' := (106, [some (.ref 100), some (.int (nI s)), some (.int 0), none], [], (SS b c), (mN I gn gs gr), J, 0, 0)) rfl trivial ?_
      have h := lp_N3 γ (b := b) (c := c) (I := I) (J := J) (Post := Post) s A (fun i => sooN I f i s) (rchN (I 100 6) f s) (fun gn gs gr h3 => ?_) 96 0 gn gs gr rfl ⟨hi.1, hi.2, fun i hi2 => absurd hi2 (by omega)⟩
      · rw [nI_0] at h
        exact h
      · refine r_run okX12_findNear 2 (cs := []) (σ' := (130, [some (.ref 100), some (.int (nI s)), some (.int 0), none], [], (SS b c), (mN I gn gs gr), J, 0, 0)) rfl trivial ?_
        have h := lp_N5 γ (b := b) (c := c) (I := I) (J := J) (Post := Post) s A (fun i => sooN I f i s) (rchN (I 100 6) f s) hL (fun gn gs gr h5 => ?_) 96 0 gn gs gr rfl ⟨fun i hi2 => ⟨(h3.1 i hi2).1, by rw [(h3.1 i hi2).2]; simp [sooQ, hitN]⟩, h3.2.1, fun i hi2 => by rw [h3.2.2 i hi2]; simp [fromN, bi_f]⟩
        · rw [nI_0] at h
          exact h
        · refine r_run okX12_findNear 2 (cs := []) (σ' := (234, [some (.ref 100), some (.int (nI s)), some (.int 0), none], [], (SS b c), (mN I gn gs gr), J, 0, 0)) rfl trivial ?_
          have h := lp_N6 γ (b := b) (c := c) (I := I) (J := J) (Post := Post) s A (fun i => sooN I f i (s + 1)) (fun i => fromN (I 100 6) (rchN (I 100 6) f s) 96 i) (fun gn gs gr h6 => ?_) 96 0 gn gs gr rfl ⟨fun i hi2 => ⟨(h5.1 i hi2).1, (h5.1 i hi2).2⟩, fun i hi2 => absurd hi2 (by omega), h5.2.2⟩
          · rw [nI_0] at h
            exact h
          · refine r_run okX12_findNear 2 (cs := []) (σ' := (98, [some (.ref 100), some (.int (nI s + 1)), none, none], [], (SS b c), (mN I gn gs gr), J, 0, 0)) rfl trivial ?_
            rw [← nI_succ]
            exact ih (s + 1) gn gs gr (by omega) ⟨h6.1, fun i hi2 => by rw [h6.2.1 i hi2]; rfl⟩
/-- what findNear leaves: near (136), soon (137); 138 is scratch -/
def nearP (I : AI) (f : Nat → Bool) (I1 : AI) : Prop := (∀ a, a ≠ 136 → a ≠ 137 → a ≠ 138 → I1 a = I a) ∧ ∀ k, k < 8 → I1 136 k = nI (nrN I f k 96) ∧ I1 137 k = sooN I f k 13
theorem c_findNear (γ : GE) {b c : Bool} {I : AI} {J : AJ} (t : Nat) (f : Nat → Bool) (ht : t < 720) (et : I 100 5 = nI t) (hm : ∀ x, x < 96 → I 116 (96 * t + x) = bi (f x)) (hL : MLand I) : Ct γ mX12_findNear 2 0 0 [.ref 100] (SS b c) I J ((fun r S' I' J' => none = r ∧ (SS b c) = S' ∧ nearP I f I' ∧ J = J')) := by
  refine ct_of okX12_findNear (L := [some (.ref 100), none, none, none]) (Nat.le_of_ble_eq_true rfl) rfl ?_
  refine r_run okX12_findNear 2 (cs := []) (σ' := (2, [some (.ref 100), some (.int 0), none, none], [], (SS b c), I, J, 0, 0)) rfl trivial ?_
  have h := lp_N1 γ (b := b) (c := c) (I := I) (J := J) (Post := (fun r S' I' J' => none = r ∧ (SS b c) = S' ∧ nearP I f I' ∧ J = J')) (fun gn gs gr h1 => ?_) 8 0 (I 136) (I 137) (I 138) rfl (fun i hi2 => absurd hi2 (by omega))
  · rw [mN_self, nI_0] at h
    exact h
  · refine r_run okX12_findNear 2 (cs := []) (σ' := (31, [some (.ref 100), some (.int 0), none, none], [], (SS b c), (mN I gn gs gr), J, 0, 0)) rfl trivial ?_
    have h := lp_N2 γ (b := b) (c := c) (I := I) (J := J) (Post := (fun r S' I' J' => none = r ∧ (SS b c) = S' ∧ nearP I f I' ∧ J = J')) t f ht et hm hL (fun gn gs gr h2 => ?_) 96 0 gn gs gr rfl ⟨fun i hi2 => ⟨by rw [(h1 i hi2).1]; exact nI_0.symm, (h1 i hi2).2⟩, fun i hi2 => absurd hi2 (by omega)⟩
    · rw [nI_0] at h
      exact h
    · refine r_run okX12_findNear 2 (cs := []) (σ' := (98, [some (.ref 100), some (.int 0), none, none], [], (SS b c), (mN I gn gs gr), J, 0, 0)) rfl trivial ?_
      have h := lp_N7 γ (b := b) (c := c) (I := I) (J := J) (Post := (fun r S' I' J' => none = r ∧ (SS b c) = S' ∧ nearP I f I' ∧ J = J')) (fun i => nI (nrN I f i 96)) f hL (fun gn gs gr h7 => ?_) 13 0 gn gs gr rfl ⟨fun i hi2 => ⟨(h2.1 i hi2).1, (h2.1 i hi2).2⟩, h2.2⟩
      · rw [nI_0] at h
        exact h
      · refine r_vret okX12_findNear rfl rfl (Nat.le_refl _) (Nat.le_refl _) ?_
        exact ⟨rfl, rfl, ⟨fun a h1 h2 h3 => mN_ne h1 h2 h3, fun k hk => h7.1 k hk⟩, rfl⟩
