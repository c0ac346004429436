/-! ===== the reference: findMaybe ===== -/
def row (I : AI) (t : Nat) (f : Nat → Bool) (n : Nat) : AI := fun a b => if a = 116 then (if 96 * t ≤ b ∧ b < 96 * t + n then bi (f (b - 96 * t)) else I a b) else I a b
def updB (f : Nat → Bool) (y : Nat) (z : Bool) : Nat → Bool := fun x => if x = y then z else f x
theorem row_ne {I : AI} {t : Nat} {f : Nat → Bool} {n a : Nat} (h : a ≠ 116) : row I t f n a = I a := by funext b; simp [row, h]
theorem row_0 {I : AI} {t : Nat} {f : Nat → Bool} : row I t f 0 = I := by funext a b; simp only [row]; split <;> (try split) <;> simp_all; omega
theorem row_in {I : AI} {t : Nat} {f : Nat → Bool} {n y : Nat} (h : y < n) : row I t f n 116 (96 * t + y) = bi (f y) := by
  simp only [row, if_true]
  rw [if_pos (by omega), Nat.add_sub_cancel_left]
theorem row_lo {I : AI} {t : Nat} {f : Nat → Bool} {n z : Nat} (h : z < 96 * t) : row I t f n 116 z = I 116 z := by
  simp only [row, if_true]
  rw [if_neg (by omega)]
theorem row_s {I : AI} {t : Nat} {f : Nat → Bool} {k : Nat} : upI (row I t f k) 116 (96 * t + k) (bi (f k)) = row I t f (k + 1) := by
  funext a b
  simp only [row, upI]
  by_cases h : a = 116
  · by_cases h1 : b = 96 * t + k
    · subst h1
      simp [h, Nat.add_sub_cancel_left]
    · have e : (96 * t ≤ b ∧ b < 96 * t + (k + 1)) = (96 * t ≤ b ∧ b < 96 * t + k) := by apply propext; omega
      simp only [h, h1, if_true, if_false, e]
  · simp [h]
theorem row_up {I : AI} {t : Nat} {f : Nat → Bool} {y : Nat} (hy : y < 96) (z : Bool) : upI (row I t f 96) 116 (96 * t + y) (bi z) = row I t (updB f y z) 96 := by
  funext a b
  simp only [row, upI]
  by_cases h : a = 116
  · by_cases h1 : b = 96 * t + y
    · subst h1
      simp [h, hy, Nat.add_sub_cancel_left, updB]
    · simp only [h, h1, if_true, if_false]
      split
      · rename_i q
        have : ¬ b - 96 * t = y := by omega
        simp [updB, this]
      · rfl
  · simp [h]
theorem row_congr {I : AI} {t : Nat} {f g : Nat → Bool} {n : Nat} (h : ∀ x, x < n → f x = g x) : row I t f n = row I t g n := by
  funext a b
  simp only [row]
  split
  · split
    · rename_i q; rw [h _ (by omega)]
    · rfl
  · rfl
def mvOn (m : Int32) (b : Nat) : Bool := decide ((m >>> (nI b &&& 31)) &&& 1 = 1)
/-- from cell y a move of number below n comes to x -/
def goesN (m : Int32) (y n x : Nat) : Bool := (List.range n).any fun b => mvOn m b && mvOK y b && decide (mvT y b = x)
def fromN (m : Int32) (f : Nat → Bool) (n x : Nat) : Bool := (List.range n).any fun y => f y && goesN m y 9 x
def relB (I : AI) (k : Int32) (t i : Nat) : Bool := decide (I 112 i = nI t) && decide (I 115 i ≤ k)
def allsN (I : AI) (k : Int32) (t n x : Nat) : Bool := (List.range n).all fun i => !relB I k t i || allB I i x
/-- MAYBE at t, of what is known at k -/
def mayB (I : AI) (k : Int32) : Nat → Nat → Bool
  | 0, x => decide ((0 : Int32) = I 100 7) && allsN I k 0 (nv (I 100 13)) x
  | t + 1, x => if nI (t + 1) < I 100 7 then false else (if nI (t + 1) = I 100 7 then true else fromN (I 100 6) (mayB I k t) 96 x) && allsN I k (t + 1) (nv (I 100 13)) x
def memM (I : AI) (k : Int32) (n : Nat) : AI := fun a b => if a = 116 then (if b < 96 * n then bi (mayB I k (b / 96) (b % 96)) else I a b) else I a b
theorem memM_ne {I : AI} {k : Int32} {n a : Nat} (h : a ≠ 116) : memM I k n a = I a := by funext b; simp [memM, h]
theorem memM_0 {I : AI} {k : Int32} : memM I k 0 = I := by funext a b; simp [memM]
theorem memM_at {I : AI} {k : Int32} {n t x : Nat} (ht : t < n) (hx : x < 96) : memM I k n 116 (96 * t + x) = bi (mayB I k t x) := by
  simp only [memM, if_true]
  rw [if_pos (by omega), show (96 * t + x) / 96 = t by omega, show (96 * t + x) % 96 = x by omega]
theorem memM_s {I : AI} {k : Int32} {n : Nat} {f : Nat → Bool} (h : ∀ x, x < 96 → f x = mayB I k n x) : row (memM I k n) n f 96 = memM I k (n + 1) := by
  funext a b
  simp only [row, memM]
  by_cases ha : a = 116
  · simp only [ha, if_true]
    by_cases h1 : 96 * n ≤ b ∧ b < 96 * n + 96
    · rw [if_pos h1, if_pos (by omega), h _ (by omega), show b / 96 = n by omega, show b % 96 = b - 96 * n by omega]
    · rw [if_neg h1]
      by_cases h2 : b < 96 * n
      · rw [if_pos h2, if_pos (by omega)]
      · rw [if_neg h2, if_neg (by omega)]
  · simp [ha]
theorem MRad_c {I I' : AI} (h : ∀ a, a ≠ 116 → I' a = I a) (hR : MRad I) : MRad I' := by
  unfold MRad at *
  simpa [h 105 (by decide), h 106 (by decide), h 107 (by decide), h 108 (by decide), h 109 (by decide)] using hR
theorem MTel_c {I I' : AI} (h : ∀ a, a ≠ 116 → I' a = I a) (hR : MTel I) : MTel I' := by
  unfold MTel at *
  simpa [h 100 (by decide), h 110 (by decide), h 111 (by decide), h 112 (by decide), h 113 (by decide), h 114 (by decide), h 115 (by decide)] using hR
theorem allB_c {I I' : AI} (h : ∀ a, a ≠ 116 → I' a = I a) (i x : Nat) : allB I' i x = allB I i x := by
  unfold allB seesB
  simp [h 105 (by decide), h 106 (by decide), h 107 (by decide), h 108 (by decide), h 109 (by decide), h 110 (by decide), h 111 (by decide), h 113 (by decide), h 114 (by decide)]
theorem mul_ix {a t x : Nat} (h : a * t + x < 2 ^ 31) : (nI a * nI t + nI x).toNatClampNeg = a * t + x := by rw [mul_add_nI]; exact nI_clamp h
theorem any_s {n : Nat} {p : Nat → Bool} : (List.range (n + 1)).any p = ((List.range n).any p || p n) := by rw [List.range_succ, List.any_append]; simp
theorem all_s {n : Nat} {p : Nat → Bool} : (List.range (n + 1)).all p = ((List.range n).all p && p n) := by rw [List.range_succ, List.all_append]; simp
theorem lpA (γ : GE) {bb c : Bool} {I : AI} {J : AJ} {Post : PT} (n t : Nat) (k : Int32) (hn : n < 720) (ht : t < 720) (K : Rj γ mX12_findMaybe 3 0 0 Post (48, [some (.ref 100), some (.int (nI n)), some (.int k), some (.int (nI t)), none, none], [], (SS bb c), (row I t (fun _ => decide (nI t = I 100 7)) 96), J, 0, 0)) : ∀ (j q : Nat), q + j = 96 → Rj γ mX12_findMaybe 3 0 0 Post (10, [some (.ref 100), some (.int (nI n)), some (.int k), some (.int (nI t)), some (.int (nI q)), none], [], (SS bb c), (row I t (fun _ => decide (nI t = I 100 7)) q), J, 0, 0) := by
  intro j
  induction j with
  | zero =>
    intro q hq
    refine r_run okX12_findMaybe 2 (cs := []) (σ' := (14, [some (.ref 100), some (.int (nI n)), some (.int k), some (.int (nI t)), some (.int (nI q)), none], [.int 96, .int (nI q)], (SS bb c), (row I t (fun _ => decide (nI t = I 100 7)) q), J, 0, 0)) rfl trivial ?_
    refine r_icmp okX12_findMaybe rfl (fun (h14 : (96 : Int32) ≤ (nI q)) => ?_) (fun (h14 : ¬ (96 : Int32) ≤ (nI q)) => ?_)
    · rw [show q = 96 by omega]
      refine r_weak (L' := [some (.ref 100), some (.int (nI n)), some (.int k), some (.int (nI t)), none, none]) ⟨rfl, rfl, rfl, rfl, trivial⟩ K
    · exact absurd (nI_le (a := 96) (by omega) (by omega)) h14
  | succ j ih =>
    intro q hq
    have cq : ((96 : Int32) * nI t + nI q).toNatClampNeg = 96 * t + q := mul_ix (a := 96) (by omega)
    refine r_run okX12_findMaybe 2 (cs := []) (σ' := (14, [some (.ref 100), some (.int (nI n)), some (.int k), some (.int (nI t)), some (.int (nI q)), none], [.int 96, .int (nI q)], (SS bb c), (row I t (fun _ => decide (nI t = I 100 7)) q), J, 0, 0)) rfl trivial ?_
    refine r_icmp okX12_findMaybe rfl (fun (h14 : (96 : Int32) ≤ (nI q)) => ?_) (fun (h14 : ¬ (96 : Int32) ≤ (nI q)) => ?_)
    · exact absurd h14 (nI_ge (b := 96) (by omega) (by decide))
    · refine r_run okX12_findMaybe 10 (cs := []) (σ' := (33, [some (.ref 100), some (.int (nI n)), some (.int k), some (.int (nI t)), some (.int (nI q)), none], [.int ((row I t (fun _ => decide (nI t = I 100 7)) q) 100 7), .int (nI t), .int ((96 * (nI t)) + (nI q)), .ref 116], (SS bb c), (row I t (fun _ => decide (nI t = I 100 7)) q), J, 0, 0)) rfl trivial ?_
      refine r_icmp okX12_findMaybe rfl (fun (h33 : ¬ (nI t) = ((row I t (fun _ => decide (nI t = I 100 7)) q) 100 7)) => ?_) (fun h330 => ?_)
      · refine r_run okX12_findMaybe 4 (cs := [vp_in ((96 * (nI t)) + (nI q)) 69120, bz 0]) (σ' := (10, [some (.ref 100), some (.int (nI n)), some (.int k), some (.int (nI t)), some (.int (nI q + 1)), none], [], (SS bb c), (upI (row I t (fun _ => decide (nI t = I 100 7)) q) 116 (((96 * (nI t)) + (nI q)).toNatClampNeg) 0), J, 0, 0)) rfl ⟨(by rw [show (96 : Int32) * nI t + nI q = nI (96 * t + q) from mul_add_nI 96 t q]; exact vin (by omega) (by decide)), (by first | exact Or.inl rfl | exact Or.inr rfl), trivial⟩ ?_
        simp only [cq]
        show Rj _ _ _ _ _ _ (10, [some (.ref 100), some (.int (nI n)), some (.int k), some (.int (nI t)), some (.int (nI q + 1)), none], [], (SS bb c), (upI (row I t (fun _ => decide (nI t = I 100 7)) q) 116 (96 * t + q) 0), J, 0, 0)
        have e : row I t (fun _ => decide (nI t = I 100 7)) (q + 1) = upI (row I t (fun _ => decide (nI t = I 100 7)) q) 116 (96 * t + q) 0 := by rw [← row_s]; congr 1; rw [row_ne (by decide)] at h33; simp [bi, h33]
        rw [← e, ← nI_succ]
        exact ih (q + 1) (by omega)
      · have h33 : (nI t) = ((row I t (fun _ => decide (nI t = I 100 7)) q) 100 7) := Classical.not_not.mp h330
        refine r_run okX12_findMaybe 5 (cs := [vp_in ((96 * (nI t)) + (nI q)) 69120, bz 1]) (σ' := (10, [some (.ref 100), some (.int (nI n)), some (.int k), some (.int (nI t)), some (.int (nI q + 1)), none], [], (SS bb c), (upI (row I t (fun _ => decide (nI t = I 100 7)) q) 116 (((96 * (nI t)) + (nI q)).toNatClampNeg) 1), J, 0, 0)) rfl ⟨(by rw [show (96 : Int32) * nI t + nI q = nI (96 * t + q) from mul_add_nI 96 t q]; exact vin (by omega) (by decide)), (by first | exact Or.inl rfl | exact Or.inr rfl), trivial⟩ ?_
        simp only [cq]
        show Rj _ _ _ _ _ _ (10, [some (.ref 100), some (.int (nI n)), some (.int k), some (.int (nI t)), some (.int (nI q + 1)), none], [], (SS bb c), (upI (row I t (fun _ => decide (nI t = I 100 7)) q) 116 (96 * t + q) 1), J, 0, 0)
        have e : row I t (fun _ => decide (nI t = I 100 7)) (q + 1) = upI (row I t (fun _ => decide (nI t = I 100 7)) q) 116 (96 * t + q) 1 := by rw [← row_s]; congr 1; rw [row_ne (by decide)] at h33; simp [bi, h33]
        rw [← e, ← nI_succ]
        exact ih (q + 1) (by omega)
def cutF (f p : Nat → Bool) (q : Nat) : Nat → Bool := fun x => if x < q then f x && p x else f x
theorem cutF_s {f p : Nat → Bool} {q x : Nat} (e : ¬ x = q) : cutF f p q x = cutF f p (q + 1) x := by
  simp only [cutF]
  by_cases h : x < q
  · rw [if_pos h, if_pos (by omega)]
  · rw [if_neg h, if_neg (by omega)]
theorem cutF_q {f p : Nat → Bool} {q : Nat} : cutF f p (q + 1) q = (f q && p q) := by simp [cutF]
theorem cutF_o {f p : Nat → Bool} {q : Nat} : cutF f p q q = f q := by simp [cutF]
theorem c_allows1 (γ : GE) {bb c : Bool} {I : AI} {J : AJ} {t : Nat} {f : Nat → Bool} (hR : MRad I) (hT : MTel I) {i x : Nat} (hi : i < nv (I 100 13)) (hx : x < 96) : Ct γ mX12_allows 2 0 0 [.ref 100, .int (nI i), .int (nI x)] (SS bb c) (row I t f 96) J (rI (bi (allB I i x)) (SS bb c) (row I t f 96) J) := by
  have h := c_allows0 γ (b := bb) (c := c) (J := J) (MRad_c (I' := row I t f 96) (fun a h => row_ne h) hR) (MTel_c (fun a h => row_ne h) hT) i x (by rw [row_ne (by decide)]; exact hi) hx
  rw [allB_c (fun a h => row_ne h)] at h
  exact h
theorem lpD (γ : GE) {bb c : Bool} {I : AI} {J : AJ} {Post : PT} (n t i : Nat) (k : Int32) (f : Nat → Bool) (ht : t < 720) (hR : MRad I) (hT : MTel I) (hi : i < nv (I 100 13)) (K : Rj γ mX12_findMaybe 3 0 0 Post (240, [some (.ref 100), some (.int (nI n)), some (.int k), some (.int (nI t)), some (.int (nI i)), none], [], (SS bb c), (row I t (fun x => f x && allB I i x) 96), J, 0, 0)) : ∀ (j q : Nat), q + j = 96 → Rj γ mX12_findMaybe 3 0 0 Post (203, [some (.ref 100), some (.int (nI n)), some (.int k), some (.int (nI t)), some (.int (nI i)), some (.int (nI q))], [], (SS bb c), (row I t (cutF f (allB I i) q) 96), J, 0, 0) := by
  intro j
  induction j with
  | zero =>
    intro q hq
    refine r_run okX12_findMaybe 2 (cs := []) (σ' := (207, [some (.ref 100), some (.int (nI n)), some (.int k), some (.int (nI t)), some (.int (nI i)), some (.int (nI q))], [.int 96, .int (nI q)], (SS bb c), (row I t (cutF f (allB I i) q) 96), J, 0, 0)) rfl trivial ?_
    refine r_icmp okX12_findMaybe rfl (fun (h207 : (96 : Int32) ≤ (nI q)) => ?_) (fun (h207 : ¬ (96 : Int32) ≤ (nI q)) => ?_)
    · rw [show q = 96 by omega]
      refine r_weak (L' := [some (.ref 100), some (.int (nI n)), some (.int k), some (.int (nI t)), some (.int (nI i)), none]) ⟨rfl, rfl, rfl, rfl, rfl, trivial⟩ ?_
      rw [row_congr (g := fun x => f x && allB I i x) (fun x hx => by simp only [cutF]; rw [if_pos hx])]
      exact K
    · exact absurd (nI_le (a := 96) (by omega) (by omega)) h207
  | succ j ih =>
    intro q hq
    have cq : ((96 : Int32) * nI t + nI q).toNatClampNeg = 96 * t + q := mul_ix (a := 96) (by omega)
    refine r_run okX12_findMaybe 2 (cs := []) (σ' := (207, [some (.ref 100), some (.int (nI n)), some (.int k), some (.int (nI t)), some (.int (nI i)), some (.int (nI q))], [.int 96, .int (nI q)], (SS bb c), (row I t (cutF f (allB I i) q) 96), J, 0, 0)) rfl trivial ?_
    refine r_icmp okX12_findMaybe rfl (fun (h207 : (96 : Int32) ≤ (nI q)) => ?_) (fun (h207 : ¬ (96 : Int32) ≤ (nI q)) => ?_)
    · exact absurd h207 (nI_ge (b := 96) (by omega) (by decide))
    · refine r_run okX12_findMaybe 3 (cs := []) (σ' := (215, [some (.ref 100), some (.int (nI n)), some (.int k), some (.int (nI t)), some (.int (nI i)), some (.int (nI q))], [.int (nI q), .int (nI i), .ref 100], (SS bb c), (row I t (cutF f (allB I i) q) 96), J, 0, 0)) rfl trivial ?_
      refine r_callV okX12_findMaybe okX12_allows [.int (nI i), .int (nI q)] [] 100 rfl rfl rfl kkX12_allows rfl rfl (by decide) rfl rfl rfl (by decide) ⟨Nat.le_refl _, Nat.le_refl _⟩ (Nat.le_of_ble_eq_true rfl) (c_allows1 γ hR hT hi (by omega)) (fun v1 S1 I1 J1 hp => ?_)
      obtain ⟨rfl, rfl, rfl, rfl⟩ := hp
      show Rj _ _ _ _ _ _ (218, [some (.ref 100), some (.int (nI n)), some (.int k), some (.int (nI t)), some (.int (nI i)), some (.int (nI q))], [.int (bi (allB I i q))], (SS bb c), (row I t (cutF f (allB I i) q) 96), J, 0, 0)
      refine r_ifc okX12_findMaybe rfl (fun (h218 : ¬ (bi (allB I i q)) = (0 : Int32)) => ?_) (fun h2180 => ?_)
      · have hs := bi_n0.mp h218
        refine r_run okX12_findMaybe 2 (cs := []) (σ' := (203, [some (.ref 100), some (.int (nI n)), some (.int k), some (.int (nI t)), some (.int (nI i)), some (.int (nI q + 1))], [], (SS bb c), (row I t (cutF f (allB I i) q) 96), J, 0, 0)) rfl trivial ?_
        rw [← nI_succ]
        rw [row_congr (g := cutF f (allB I i) (q + 1)) (fun x hx => by by_cases e : x = q; (· subst e; rw [cutF_q, cutF_o, hs]; simp); (· rw [← cutF_s e]))]
        exact ih (q + 1) (by omega)
      · have h218 : (bi (allB I i q)) = (0 : Int32) := Classical.not_not.mp h2180
        have hs := bi_0.mp h218
        refine r_run okX12_findMaybe 11 (cs := [vp_in ((96 * (nI t)) + (nI q)) 69120, bz 0]) (σ' := (203, [some (.ref 100), some (.int (nI n)), some (.int k), some (.int (nI t)), some (.int (nI i)), some (.int (nI q + 1))], [], (SS bb c), (upI (row I t (cutF f (allB I i) q) 96) 116 (((96 * (nI t)) + (nI q)).toNatClampNeg) 0), J, 0, 0)) rfl ⟨(by rw [show (96 : Int32) * nI t + nI q = nI (96 * t + q) from mul_add_nI 96 t q]; exact vin (by omega) (by decide)), (Or.inl rfl), trivial⟩ ?_
        simp only [cq]
        show Rj _ _ _ _ _ _ (203, [some (.ref 100), some (.int (nI n)), some (.int k), some (.int (nI t)), some (.int (nI i)), some (.int (nI q + 1))], [], (SS bb c), (upI (row I t (cutF f (allB I i) q) 96) 116 (96 * t + q) 0), J, 0, 0)
        rw [show (0 : Int32) = bi false from rfl, row_up (by omega), ← nI_succ]
        rw [row_congr (g := cutF f (allB I i) (q + 1)) (fun x hx => by by_cases e : x = q; (· subst e; rw [cutF_q, hs]; simp [updB]); (· rw [← cutF_s e]; simp [updB, e]))]
        exact ih (q + 1) (by omega)
theorem lpC (γ : GE) {bb c : Bool} {I : AI} {J : AJ} {Post : PT} (n t m : Nat) (k : Int32) (f : Nat → Bool) (ht : t < 720) (hR : MRad I) (hT : MTel I) (hm : m < 301) (em : I 100 13 = nI m) (K : Rj γ mX12_findMaybe 3 0 0 Post (246, [some (.ref 100), some (.int (nI n)), some (.int k), some (.int (nI t)), none, none], [], (SS bb c), (row I t (fun x => f x && allsN I k t (nv (I 100 13)) x) 96), J, 0, 0)) : ∀ (j i : Nat), i + j = m → Rj γ mX12_findMaybe 3 0 0 Post (166, [some (.ref 100), some (.int (nI n)), some (.int k), some (.int (nI t)), some (.int (nI i)), none], [], (SS bb c), (row I t (fun x => f x && allsN I k t i x) 96), J, 0, 0) := by
  intro j
  induction j with
  | zero =>
    intro i hi0
    have rn13 : (row I t (fun x => f x && allsN I k t i x) 96) 100 13 = I 100 13 := by rw [row_ne (by decide)]
    refine r_run okX12_findMaybe 3 (cs := []) (σ' := (172, [some (.ref 100), some (.int (nI n)), some (.int k), some (.int (nI t)), some (.int (nI i)), none], [.int ((row I t (fun x => f x && allsN I k t i x) 96) 100 13), .int (nI i)], (SS bb c), (row I t (fun x => f x && allsN I k t i x) 96), J, 0, 0)) rfl trivial ?_
    simp only [rn13]
    show Rj _ _ _ _ _ _ (172, [some (.ref 100), some (.int (nI n)), some (.int k), some (.int (nI t)), some (.int (nI i)), none], [.int (I 100 13), .int (nI i)], (SS bb c), (row I t (fun x => f x && allsN I k t i x) 96), J, 0, 0)
    refine r_icmp okX12_findMaybe rfl (fun (h172 : (I 100 13) ≤ (nI i)) => ?_) (fun (h172 : ¬ (I 100 13) ≤ (nI i)) => ?_)
    · rw [show i = nv (I 100 13) by rw [em, nv_nI (by omega)]; omega]
      refine r_weak (L' := [some (.ref 100), some (.int (nI n)), some (.int k), some (.int (nI t)), none, none]) ⟨rfl, rfl, rfl, rfl, trivial⟩ K
    · exact absurd (by rw [em]; exact nI_le (by omega) (by omega)) h172
  | succ j ih =>
    intro i hi0
    have ci : (nI i).toNatClampNeg = i := nI_clamp (by omega)
    have rn13 : (row I t (fun x => f x && allsN I k t i x) 96) 100 13 = I 100 13 := by rw [row_ne (by decide)]
    have rn112 : (row I t (fun x => f x && allsN I k t i x) 96) 112 i = I 112 i := by rw [row_ne (by decide)]
    have rn115 : (row I t (fun x => f x && allsN I k t i x) 96) 115 i = I 115 i := by rw [row_ne (by decide)]
    refine r_run okX12_findMaybe 3 (cs := []) (σ' := (172, [some (.ref 100), some (.int (nI n)), some (.int k), some (.int (nI t)), some (.int (nI i)), none], [.int ((row I t (fun x => f x && allsN I k t i x) 96) 100 13), .int (nI i)], (SS bb c), (row I t (fun x => f x && allsN I k t i x) 96), J, 0, 0)) rfl trivial ?_
    simp only [rn13]
    show Rj _ _ _ _ _ _ (172, [some (.ref 100), some (.int (nI n)), some (.int k), some (.int (nI t)), some (.int (nI i)), none], [.int (I 100 13), .int (nI i)], (SS bb c), (row I t (fun x => f x && allsN I k t i x) 96), J, 0, 0)
    refine r_icmp okX12_findMaybe rfl (fun (h172 : (I 100 13) ≤ (nI i)) => ?_) (fun (h172 : ¬ (I 100 13) ≤ (nI i)) => ?_)
    · exact absurd h172 (by rw [em]; exact nI_ge (by omega) (by omega))
    · refine r_run okX12_findMaybe 5 (cs := [vp_in (nI i) 300]) (σ' := (183, [some (.ref 100), some (.int (nI n)), some (.int k), some (.int (nI t)), some (.int (nI i)), none], [.int (nI t), .int ((row I t (fun x => f x && allsN I k t i x) 96) 112 ((nI i).toNatClampNeg))], (SS bb c), (row I t (fun x => f x && allsN I k t i x) 96), J, 0, 0)) rfl ⟨(vin (by omega) (by decide)), trivial⟩ ?_
      simp only [ci, rn112]
      show Rj _ _ _ _ _ _ (183, [some (.ref 100), some (.int (nI n)), some (.int k), some (.int (nI t)), some (.int (nI i)), none], [.int (nI t), .int (I 112 i)], (SS bb c), (row I t (fun x => f x && allsN I k t i x) 96), J, 0, 0)
      refine r_icmp okX12_findMaybe rfl (fun (h183 : ¬ (I 112 i) = (nI t)) => ?_) (fun h1830 => ?_)
      · refine r_run okX12_findMaybe 2 (cs := []) (σ' := (166, [some (.ref 100), some (.int (nI n)), some (.int k), some (.int (nI t)), some (.int (nI i + 1)), none], [], (SS bb c), (row I t (fun x => f x && allsN I k t i x) 96), J, 0, 0)) rfl trivial ?_
        rw [← nI_succ]
        rw [row_congr (g := fun x => f x && allsN I k t (i + 1) x) (fun x hx => by simp only [allsN, all_s, relB]; simp [*])]
        exact ih (i + 1) (by omega)
      · have h183 : (I 112 i) = (nI t) := Classical.not_not.mp h1830
        refine r_run okX12_findMaybe 5 (cs := [vp_in (nI i) 300]) (σ' := (194, [some (.ref 100), some (.int (nI n)), some (.int k), some (.int (nI t)), some (.int (nI i)), none], [.int k, .int ((row I t (fun x => f x && allsN I k t i x) 96) 115 ((nI i).toNatClampNeg))], (SS bb c), (row I t (fun x => f x && allsN I k t i x) 96), J, 0, 0)) rfl ⟨(vin (by omega) (by decide)), trivial⟩ ?_
        simp only [ci, rn115]
        show Rj _ _ _ _ _ _ (194, [some (.ref 100), some (.int (nI n)), some (.int k), some (.int (nI t)), some (.int (nI i)), none], [.int k, .int (I 115 i)], (SS bb c), (row I t (fun x => f x && allsN I k t i x) 96), J, 0, 0)
        refine r_icmp okX12_findMaybe rfl (fun (h194 : (I 115 i) ≤ k) => ?_) (fun (h194 : ¬ (I 115 i) ≤ k) => ?_)
        · refine r_run okX12_findMaybe 2 (cs := []) (σ' := (203, [some (.ref 100), some (.int (nI n)), some (.int k), some (.int (nI t)), some (.int (nI i)), some (.int 0)], [], (SS bb c), (row I t (fun x => f x && allsN I k t i x) 96), J, 0, 0)) rfl trivial ?_
          have h := lpD γ (I := I) (J := J) (bb := bb) (c := c) (Post := Post) n t i k (fun x => f x && allsN I k t i x) ht hR hT (by rw [em, nv_nI (by omega)]; omega) ?_ 96 0 rfl
          · rw [row_congr (g := fun x => f x && allsN I k t i x) (fun x hx => by simp [cutF]), nI_0] at h
            exact h
          · refine r_run okX12_findMaybe 2 (cs := []) (σ' := (166, [some (.ref 100), some (.int (nI n)), some (.int k), some (.int (nI t)), some (.int (nI i + 1)), none], [], (SS bb c), (row I t (fun x => (f x && allsN I k t i x) && allB I i x) 96), J, 0, 0)) rfl trivial ?_
            rw [← nI_succ]
            rw [row_congr (g := fun x => f x && allsN I k t (i + 1) x) (fun x hx => by simp only [allsN, all_s, relB]; simp [*, Bool.and_assoc])]
            exact ih (i + 1) (by omega)
        · refine r_run okX12_findMaybe 3 (cs := []) (σ' := (166, [some (.ref 100), some (.int (nI n)), some (.int k), some (.int (nI t)), some (.int (nI i + 1)), none], [], (SS bb c), (row I t (fun x => f x && allsN I k t i x) 96), J, 0, 0)) rfl trivial ?_
          rw [← nI_succ]
          rw [row_congr (g := fun x => f x && allsN I k t (i + 1) x) (fun x hx => by simp only [allsN, all_s, relB]; simp [*])]
          exact ih (i + 1) (by omega)
