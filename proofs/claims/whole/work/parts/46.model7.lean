/-! ===== the reference: findMaybe ===== -/
def row (I : AI) (t : Nat) (f : Nat → Bool) (n : Nat) : AI := fun a b => if a = 116 then (if 96 * t ≤ b ∧ b < 96 * t + n then bi (f (b - 96 * t)) else I a b) else I a b
def updB (f : Nat → Bool) (y : Nat) (z : Bool) : Nat → Bool := fun x => if x = y then z else f x
theorem row_ne {I : AI} {t : Nat} {f : Nat → Bool} {n a : Nat} (h : a ≠ 116) : row I t f n a = I a := by funext b; simp [row, h]
theorem row_0 {I : AI} {t : Nat} {f : Nat → Bool} : row I t f 0 = I := by funext a b; simp only [row]; split <;> (try split) <;> simp_all; omega
theorem row_in {I : AI} {t : Nat} {f : Nat → Bool} {n y : Nat} (h : y < n) : row I t f n 116 (96 * t + y) = bi (f y) := by
  simp only [row, if_true]
  rw [if_pos (by omega), Nat.add_sub_cancel_left]
theorem row_lo {I : AI} {t : Nat} {f : Nat → Bool} {n z : Nat} (h : z < 96 * t) : row I t f n 116 z = I 116 z := by
  simp only [row, if_true]
  rw [if_neg (by omega)]
theorem row_s {I : AI} {t : Nat} {f : Nat → Bool} {k : Nat} : upI (row I t f k) 116 (96 * t + k) (bi (f k)) = row I t f (k + 1) := by
  funext a b
  simp only [row, upI]
  by_cases h : a = 116
  · by_cases h1 : b = 96 * t + k
    · subst h1
      simp [h, Nat.add_sub_cancel_left]
    · have e : (96 * t ≤ b ∧ b < 96 * t + (k + 1)) = (96 * t ≤ b ∧ b < 96 * t + k) := by apply propext; omega
      simp only [h, h1, if_true, if_false, e]
  · simp [h]
theorem row_up {I : AI} {t : Nat} {f : Nat → Bool} {y : Nat} (hy : y < 96) (z : Bool) : upI (row I t f 96) 116 (96 * t + y) (bi z) = row I t (updB f y z) 96 := by
  funext a b
  simp only [row, upI]
  by_cases h : a = 116
  · by_cases h1 : b = 96 * t + y
    · subst h1
      simp [h, hy, Nat.add_sub_cancel_left, updB]
    · simp only [h, h1, if_true, if_false]
      split
      · rename_i q
        have : ¬ b - 96 * t = y := by omega
        simp [updB, this]
      · rfl
  · simp [h]
theorem row_congr {I : AI} {t : Nat} {f g : Nat → Bool} {n : Nat} (h : ∀ x, x < n → f x = g x) : row I t f n = row I t g n := by
  funext a b
  simp only [row]
  split
  · split
    · rename_i q; rw [h _ (by omega)]
    · rfl
  · rfl
def mvOn (m : Int32) (b : Nat) : Bool := decide ((m >>> (nI b &&& 31)) &&& 1 = 1)
/-- from cell y a move of number below n comes to x -/
def goesN (m : Int32) (y n x : Nat) : Bool := (List.range n).any fun b => mvOn m b && mvOK y b && decide (mvT y b = x)
def fromN (m : Int32) (f : Nat → Bool) (n x : Nat) : Bool := (List.range n).any fun y => f y && goesN m y 9 x
def relB (I : AI) (k : Int32) (t i : Nat) : Bool := decide (I 112 i = nI t) && decide (I 115 i ≤ k)
def allsN (I : AI) (k : Int32) (t n x : Nat) : Bool := (List.range n).all fun i => !relB I k t i || allB I i x
/-- MAYBE at t, of what is known at k -/
def mayB (I : AI) (k : Int32) : Nat → Nat → Bool
  | 0, x => decide ((0 : Int32) = I 100 7) && allsN I k 0 (nv (I 100 13)) x
  | t + 1, x => if nI (t + 1) < I 100 7 then false else (if nI (t + 1) = I 100 7 then true else fromN (I 100 6) (mayB I k t) 96 x) && allsN I k (t + 1) (nv (I 100 13)) x
def memM (I : AI) (k : Int32) (n : Nat) : AI := fun a b => if a = 116 then (if b < 96 * n then bi (mayB I k (b / 96) (b % 96)) else I a b) else I a b
theorem memM_ne {I : AI} {k : Int32} {n a : Nat} (h : a ≠ 116) : memM I k n a = I a := by funext b; simp [memM, h]
theorem memM_0 {I : AI} {k : Int32} : memM I k 0 = I := by funext a b; simp [memM]
theorem memM_at {I : AI} {k : Int32} {n t x : Nat} (ht : t < n) (hx : x < 96) : memM I k n 116 (96 * t + x) = bi (mayB I k t x) := by
  simp only [memM, if_true]
  rw [if_pos (by omega), show (96 * t + x) / 96 = t by omega, show (96 * t + x) % 96 = x by omega]
theorem memM_s {I : AI} {k : Int32} {n : Nat} {f : Nat → Bool} (h : ∀ x, x < 96 → f x = mayB I k n x) : row (memM I k n) n f 96 = memM I k (n + 1) := by
  funext a b
  simp only [row, memM]
  by_cases ha : a = 116
  · simp only [ha, if_true]
    by_cases h1 : 96 * n ≤ b ∧ b < 96 * n + 96
    · rw [if_pos h1, if_pos (by omega), h _ (by omega), show b / 96 = n by omega, show b % 96 = b - 96 * n by omega]
    · rw [if_neg h1]
      by_cases h2 : b < 96 * n
      · rw [if_pos h2, if_pos (by omega)]
      · rw [if_neg h2, if_neg (by omega)]
  · simp [ha]
theorem MRad_c {I I' : AI} (h : ∀ a, a ≠ 116 → I' a = I a) (hR : MRad I) : MRad I' := by
  unfold MRad at *
  simpa [h 105 (by decide), h 106 (by decide), h 107 (by decide), h 108 (by decide), h 109 (by decide)] using hR
theorem MTel_c {I I' : AI} (h : ∀ a, a ≠ 116 → I' a = I a) (hR : MTel I) : MTel I' := by
  unfold MTel at *
  simpa [h 100 (by decide), h 110 (by decide), h 111 (by decide), h 112 (by decide), h 113 (by decide), h 114 (by decide), h 115 (by decide)] using hR
theorem allB_c {I I' : AI} (h : ∀ a, a ≠ 116 → I' a = I a) (i x : Nat) : allB I' i x = allB I i x := by
  unfold allB seesB
  simp [h 105 (by decide), h 106 (by decide), h 107 (by decide), h 108 (by decide), h 109 (by decide), h 110 (by decide), h 111 (by decide), h 113 (by decide), h 114 (by decide)]
theorem mul_ix {a t x : Nat} (h : a * t + x < 2 ^ 31) : (nI a * nI t + nI x).toNatClampNeg = a * t + x := by rw [mul_add_nI]; exact nI_clamp h
theorem any_s {n : Nat} {p : Nat → Bool} : (List.range (n + 1)).any p = ((List.range n).any p || p n) := by rw [List.range_succ, List.any_append]; simp
theorem all_s {n : Nat} {p : Nat → Bool} : (List.range (n + 1)).all p = ((List.range n).all p && p n) := by rw [List.range_succ, List.all_append]; simp
theorem lpA (γ : GE) {bb c : Bool} {I : AI} {J : AJ} {Post : PT} (n t : Nat) (k : Int32) (hn : n < 720) (ht : t < 720) (K : Rj γ mX12_findMaybe 3 0 0 Post (48, [some (.ref 100), some (.int (nI n)), some (.int k), some (.int (nI t)), none, none], [], (SS bb c), (row I t (fun _ => decide (nI t = I 100 7)) 96), J, 0, 0)) : ∀ (j q : Nat), q + j = 96 → Rj γ mX12_findMaybe 3 0 0 Post (10, [some (.ref 100), some (.int (nI n)), some (.int k), some (.int (nI t)), some (.int (nI q)), none], [], (SS bb c), (row I t (fun _ => decide (nI t = I 100 7)) q), J, 0, 0) := by
  intro j
  induction j with
  | zero =>
    intro q hq
    refine r_run okX12_findMaybe 2 (cs := []) (σ' := (14, [some (.ref 100), some (.int (nI n)), some (.int k), some (.int (nI t)), some (.int (nI q)), none], [.int 96, .int (nI q)], (SS bb c), (row I t (fun _ => decide (nI t = I 100 7)) q), J, 0, 0)) rfl trivial ?_
    refine r_icmp okX12_findMaybe rfl (fun (h14 : (96 : Int32) ≤ (nI q)) => ?_) (fun (h14 : ¬ (96 : Int32) ≤ (nI q)) => ?_)
    · rw [show q = 96 by omega]
      refine r_weak (L' := [some (.ref 100), some (.int (nI n)), some (.int k), some (.int (nI t)), none, none]) ⟨rfl, rfl, rfl, rfl, trivial⟩ K
    · exact absurd (nI_le (a := 96) (by omega) (by omega)) h14
  | succ j ih =>
    intro q hq
    have cq : ((96 : Int32) * nI t + nI q).toNatClampNeg = 96 * t + q := mul_ix (a := 96) (by omega)
    refine r_run okX12_findMaybe 2 (cs := []) (σ' := (14, [some (.ref 100), some (.int (nI n)), some (.int k), some (.int (nI t)), some (.int (nI q)), none], [.int 96, .int (nI q)], (SS bb c), (row I t (fun _ => decide (nI t = I 100 7)) q), J, 0, 0)) rfl trivial ?_
    refine r_icmp okX12_findMaybe rfl (fun (h14 : (96 : Int32) ≤ (nI q)) => ?_) (fun (h14 : ¬ (96 : Int32) ≤ (nI q)) => ?_)
    · exact absurd h14 (nI_ge (b := 96) (by omega) (by decide))
    · refine r_run okX12_findMaybe 10 (cs := []) (σ' := (33, [some (.ref 100), some (.int (nI n)), some (.int k), some (.int (nI t)), some (.int (nI q)), none], [.int ((row I t (fun _ => decide (nI t = I 100 7)) q) 100 7), .int (nI t), .int ((96 * (nI t)) + (nI q)), .ref 116], (SS bb c), (row I t (fun _ => decide (nI t = I 100 7)) q), J, 0, 0)) rfl trivial ?_
      refine r_icmp okX12_findMaybe rfl (fun (h33 : ¬ (nI t) = ((row I t (fun _ => decide (nI t = I 100 7)) q) 100 7)) => ?_) (fun h330 => ?_)
      · refine r_run okX12_findMaybe 4 (cs := [vp_in ((96 * (nI t)) + (nI q)) 69120, bz 0]) (σ' := (10, [some (.ref 100), some (.int (nI n)), some (.int k), some (.int (nI t)), some (.int (nI q + 1)), none], [], (SS bb c), (upI (row I t (fun _ => decide (nI t = I 100 7)) q) 116 (((96 * (nI t)) + (nI q)).toNatClampNeg) 0), J, 0, 0)) rfl ⟨(by rw [show (96 : Int32) * nI t + nI q = nI (96 * t + q) from mul_add_nI 96 t q]; exact vin (by omega) (by decide)), (by first | exact Or.inl rfl | exact Or.inr rfl), trivial⟩ ?_
        simp only [cq]
        show Rj _ _ _ _ _ _ (10, [some (.ref 100), some (.int (nI n)), some (.int k), some (.int (nI t)), some (.int (nI q + 1)), none], [], (SS bb c), (upI (row I t (fun _ => decide (nI t = I 100 7)) q) 116 (96 * t + q) 0), J, 0, 0)
        have e : row I t (fun _ => decide (nI t = I 100 7)) (q + 1) = upI (row I t (fun _ => decide (nI t = I 100 7)) q) 116 (96 * t + q) 0 := by rw [← row_s]; congr 1; rw [row_ne (by decide)] at h33; simp [bi, h33]
        rw [← e, ← nI_succ]
        exact ih (q + 1) (by omega)
      · have h33 : (nI t) = ((row I t (fun _ => decide (nI t = I 100 7)) q) 100 7) := Classical.not_not.mp h330
        refine r_run okX12_findMaybe 5 (cs := [vp_in ((96 * (nI t)) + (nI q)) 69120, bz 1]) (σ' := (10, [some (.ref 100), some (.int (nI n)), some (.int k), some (.int (nI t)), some (.int (nI q + 1)), none], [], (SS bb c), (upI (row I t (fun _ => decide (nI t = I 100 7)) q) 116 (((96 * (nI t)) + (nI q)).toNatClampNeg) 1), J, 0, 0)) rfl ⟨(by rw [show (96 : Int32) * nI t + nI q = nI (96 * t + q) from mul_add_nI 96 t q]; exact vin (by omega) (by decide)), (by first | exact Or.inl rfl | exact Or.inr rfl), trivial⟩ ?_
        simp only [cq]
        show Rj _ _ _ _ _ _ (10, [some (.ref 100), some (.int (nI n)), some (.int k), some (.int (nI t)), some (.int (nI q + 1)), none], [], (SS bb c), (upI (row I t (fun _ => decide (nI t = I 100 7)) q) 116 (96 * t + q) 1), J, 0, 0)
        have e : row I t (fun _ => decide (nI t = I 100 7)) (q + 1) = upI (row I t (fun _ => decide (nI t = I 100 7)) q) 116 (96 * t + q) 1 := by rw [← row_s]; congr 1; rw [row_ne (by decide)] at h33; simp [bi, h33]
        rw [← e, ← nI_succ]
        exact ih (q + 1) (by omega)
def cutF (f p : Nat → Bool) (q : Nat) : Nat → Bool := fun x => if x < q then f x && p x else f x
theorem cutF_s {f p : Nat → Bool} {q x : Nat} (e : ¬ x = q) : cutF f p q x = cutF f p (q + 1) x := by
  simp only [cutF]
  by_cases h : x < q
  · rw [if_pos h, if_pos (by omega)]
  · rw [if_neg h, if_neg (by omega)]
theorem cutF_q {f p : Nat → Bool} {q : Nat} : cutF f p (q + 1) q = (f q && p q) := by simp [cutF]
theorem cutF_o {f p : Nat → Bool} {q : Nat} : cutF f p q q = f q := by simp [cutF]
theorem c_allows1 (γ : GE) {bb c : Bool} {I : AI} {J : AJ} {t : Nat} {f : Nat → Bool} (hR : MRad I) (hT : MTel I) {i x : Nat} (hi : i < nv (I 100 13)) (hx : x < 96) : Ct γ mX12_allows 2 0 0 [.ref 100, .int (nI i), .int (nI x)] (SS bb c) (row I t f 96) J (rI (bi (allB I i x)) (SS bb c) (row I t f 96) J) := by
  have h := c_allows0 γ (b := bb) (c := c) (J := J) (MRad_c (I' := row I t f 96) (fun a h => row_ne h) hR) (MTel_c (fun a h => row_ne h) hT) i x (by rw [row_ne (by decide)]; exact hi) hx
  rw [allB_c (fun a h => row_ne h)] at h
  exact h
theorem lpD (γ : GE) {bb c : Bool} {I : AI} {J : AJ} {Post : PT} (n t i : Nat) (k : Int32) (f : Nat → Bool) (ht : t < 720) (hR : MRad I) (hT : MTel I) (hi : i < nv (I 100 13)) (K : Rj γ mX12_findMaybe 3 0 0 Post (240, [some (.ref 100), some (.int (nI n)), some (.int k), some (.int (nI t)), some (.int (nI i)), none], [], (SS bb c), (row I t (fun x => f x && allB I i x) 96), J, 0, 0)) : ∀ (j q : Nat), q + j = 96 → Rj γ mX12_findMaybe 3 0 0 Post (203, [some (.ref 100), some (.int (nI n)), some (.int k), some (.int (nI t)), some (.int (nI i)), some (.int (nI q))], [], (SS bb c), (row I t (cutF f (allB I i) q) 96), J, 0, 0) := by
  intro j
  induction j with
  | zero =>
    intro q hq
    refine r_run okX12_findMaybe 2 (cs := []) (σ' := (207, [some (.ref 100), some (.int (nI n)), some (.int k), some (.int (nI t)), some (.int (nI i)), some (.int (nI q))], [.int 96, .int (nI q)], (SS bb c), (row I t (cutF f (allB I i) q) 96), J, 0, 0)) rfl trivial ?_
    refine r_icmp okX12_findMaybe rfl (fun (h207 : (96 : Int32) ≤ (nI q)) => ?_) (fun (h207 : ¬ (96 : Int32) ≤ (nI q)) => ?_)
    · rw [show q = 96 by omega]
      refine r_weak (L' := [some (.ref 100), some (.int (nI n)), some (.int k), some (.int (nI t)), some (.int (nI i)), none]) ⟨rfl, rfl, rfl, rfl, rfl, trivial⟩ ?_
      rw [row_congr (g := fun x => f x && allB I i x) (fun x hx => by simp only [cutF]; rw [if_pos hx])]
      exact K
    · exact absurd (nI_le (a := 96) (by omega) (by omega)) h207
  | succ j ih =>
    intro q hq
    have cq : ((96 : Int32) * nI t + nI q).toNatClampNeg = 96 * t + q := mul_ix (a := 96) (by omega)
    refine r_run okX12_findMaybe 2 (cs := []) (σ' := (207, [some (.ref 100), some (.int (nI n)), some (.int k), some (.int (nI t)), some (.int (nI i)), some (.int (nI q))], [.int 96, .int (nI q)], (SS bb c), (row I t (cutF f (allB I i) q) 96), J, 0, 0)) rfl trivial ?_
    refine r_icmp okX12_findMaybe rfl (fun (h207 : (96 : Int32) ≤ (nI q)) => ?_) (fun (h207 : ¬ (96 : Int32) ≤ (nI q)) => ?_)
    · exact absurd h207 (nI_ge (b := 96) (by omega) (by decide))
    · refine r_run okX12_findMaybe 3 (cs := []) (σ' := (215, [some (.ref 100), some (.int (nI n)), some (.int k), some (.int (nI t)), some (.int (nI i)), some (.int (nI q))], [.int (nI q), .int (nI i), .ref 100], (SS bb c), (row I t (cutF f (allB I i) q) 96), J, 0, 0)) rfl trivial ?_
      refine r_callV okX12_findMaybe okX12_allows [.int (nI i), .int (nI q)] [] 100 rfl rfl rfl kkX12_allows rfl rfl (by decide) rfl rfl rfl (by decide) ⟨Nat.le_refl _, Nat.le_refl _⟩ (Nat.le_of_ble_eq_true rfl) (c_allows1 γ hR hT hi (by omega)) (fun v1 S1 I1 J1 hp => ?_)
      obtain ⟨rfl, rfl, rfl, rfl⟩ := hp
      show Rj _ _ _ _ _ _ (218, [some (.ref 100), some (.int (nI n)), some (.int k), some (.int (nI t)), some (.int (nI i)), some (.int (nI q))], [.int (bi (allB I i q))], (SS bb c), (row I t (cutF f (allB I i) q) 96), J, 0, 0)
      refine r_ifc okX12_findMaybe rfl (fun (h218 : ¬ (bi (allB I i q)) = (0 : Int32)) => ?_) (fun h2180 => ?_)
      · have hs := bi_n0.mp h218
        refine r_run okX12_findMaybe 2 (cs := []) (σ' := (203, [some (.ref 100), some (.int (nI n)), some (.int k), some (.int (nI t)), some (.int (nI i)), some (.int (nI q + 1))], [], (SS bb c), (row I t (cutF f (allB I i) q) 96), J, 0, 0)) rfl trivial ?_
        rw [← nI_succ]
        rw [row_congr (g := cutF f (allB I i) (q + 1)) (fun x hx => by by_cases e : x = q; (· subst e; rw [cutF_q, cutF_o, hs]; simp); (· rw [← cutF_s e]))]
        exact ih (q + 1) (by omega)
      · have h218 : (bi (allB I i q)) = (0 : Int32) := Classical.not_not.mp h2180
        have hs := bi_0.mp h218
        refine r_run okX12_findMaybe 11 (cs := [vp_in ((96 * (nI t)) + (nI q)) 69120, bz 0]) (σ' := (203, [some (.ref 100), some (.int (nI n)), some (.int k), some (.int (nI t)), some (.int (nI i)), some (.int (nI q + 1))], [], (SS bb c), (upI (row I t (cutF f (allB I i) q) 96) 116 (((96 * (nI t)) + (nI q)).toNatClampNeg) 0), J, 0, 0)) rfl ⟨(by rw [show (96 : Int32) * nI t + nI q = nI (96 * t + q) from mul_add_nI 96 t q]; exact vin (by omega) (by decide)), (Or.inl rfl), trivial⟩ ?_
        simp only [cq]
        show Rj _ _ _ _ _ _ (203, [some (.ref 100), some (.int (nI n)), some (.int k), some (.int (nI t)), some (.int (nI i)), some (.int (nI q + 1))], [], (SS bb c), (upI (row I t (cutF f (allB I i) q) 96) 116 (96 * t + q) 0), J, 0, 0)
        rw [show (0 : Int32) = bi false from rfl, row_up (by omega), ← nI_succ]
        rw [row_congr (g := cutF f (allB I i) (q + 1)) (fun x hx => by by_cases e : x = q; (· subst e; rw [cutF_q, hs]; simp [updB]); (· rw [← cutF_s e]; simp [updB, e]))]
        exact ih (q + 1) (by omega)
theorem lpC (γ : GE) {bb c : Bool} {I : AI} {J : AJ} {Post : PT} (n t m : Nat) (k : Int32) (f : Nat → Bool) (ht : t < 720) (hR : MRad I) (hT : MTel I) (hm : m < 301) (em : I 100 13 = nI m) (K : Rj γ mX12_findMaybe 3 0 0 Post (246, [some (.ref 100), some (.int (nI n)), some (.int k), some (.int (nI t)), none, none], [], (SS bb c), (row I t (fun x => f x && allsN I k t (nv (I 100 13)) x) 96), J, 0, 0)) : ∀ (j i : Nat), i + j = m → Rj γ mX12_findMaybe 3 0 0 Post (166, [some (.ref 100), some (.int (nI n)), some (.int k), some (.int (nI t)), some (.int (nI i)), none], [], (SS bb c), (row I t (fun x => f x && allsN I k t i x) 96), J, 0, 0) := by
  intro j
  induction j with
  | zero =>
    intro i hi0
    have rn13 : (row I t (fun x => f x && allsN I k t i x) 96) 100 13 = I 100 13 := by rw [row_ne (by decide)]
    refine r_run okX12_findMaybe 3 (cs := []) (σ' := (172, [some (.ref 100), some (.int (nI n)), some (.int k), some (.int (nI t)), some (.int (nI i)), none], [.int ((row I t (fun x => f x && allsN I k t i x) 96) 100 13), .int (nI i)], (SS bb c), (row I t (fun x => f x && allsN I k t i x) 96), J, 0, 0)) rfl trivial ?_
    simp only [rn13]
    show Rj _ _ _ _ _ _ (172, [some (.ref 100), some (.int (nI n)), some (.int k), some (.int (nI t)), some (.int (nI i)), none], [.int (I 100 13), .int (nI i)], (SS bb c), (row I t (fun x => f x && allsN I k t i x) 96), J, 0, 0)
    refine r_icmp okX12_findMaybe rfl (fun (h172 : (I 100 13) ≤ (nI i)) => ?_) (fun (h172 : ¬ (I 100 13) ≤ (nI i)) => ?_)
    · rw [show i = nv (I 100 13) by rw [em, nv_nI (by omega)]; omega]
      refine r_weak (L' := [some (.ref 100), some (.int (nI n)), some (.int k), some (.int (nI t)), none, none]) ⟨rfl, rfl, rfl, rfl, trivial⟩ K
    · exact absurd (by rw [em]; exact nI_le (by omega) (by omega)) h172
  | succ j ih =>
    intro i hi0
    have ci : (nI i).toNatClampNeg = i := nI_clamp (by omega)
    have rn13 : (row I t (fun x => f x && allsN I k t i x) 96) 100 13 = I 100 13 := by rw [row_ne (by decide)]
    have rn112 : (row I t (fun x => f x && allsN I k t i x) 96) 112 i = I 112 i := by rw [row_ne (by decide)]
    have rn115 : (row I t (fun x => f x && allsN I k t i x) 96) 115 i = I 115 i := by rw [row_ne (by decide)]
    refine r_run okX12_findMaybe 3 (cs := []) (σ' := (172, [some (.ref 100), some (.int (nI n)), some (.int k), some (.int (nI t)), some (.int (nI i)), none], [.int ((row I t (fun x => f x && allsN I k t i x) 96) 100 13), .int (nI i)], (SS bb c), (row I t (fun x => f x && allsN I k t i x) 96), J, 0, 0)) rfl trivial ?_
    simp only [rn13]
    show Rj _ _ _ _ _ _ (172, [some (.ref 100), some (.int (nI n)), some (.int k), some (.int (nI t)), some (.int (nI i)), none], [.int (I 100 13), .int (nI i)], (SS bb c), (row I t (fun x => f x && allsN I k t i x) 96), J, 0, 0)
    refine r_icmp okX12_findMaybe rfl (fun (h172 : (I 100 13) ≤ (nI i)) => ?_) (fun (h172 : ¬ (I 100 13) ≤ (nI i)) => ?_)
    · exact absurd h172 (by rw [em]; exact nI_ge (by omega) (by omega))
    · refine r_run okX12_findMaybe 5 (cs := [vp_in (nI i) 300]) (σ' := (183, [some (.ref 100), some (.int (nI n)), some (.int k), some (.int (nI t)), some (.int (nI i)), none], [.int (nI t), .int ((row I t (fun x => f x && allsN I k t i x) 96) 112 ((nI i).toNatClampNeg))], (SS bb c), (row I t (fun x => f x && allsN I k t i x) 96), J, 0, 0)) rfl ⟨(vin (by omega) (by decide)), trivial⟩ ?_
      simp only [ci, rn112]
      show Rj _ _ _ _ _ _ (183, [some (.ref 100), some (.int (nI n)), some (.int k), some (.int (nI t)), some (.int (nI i)), none], [.int (nI t), .int (I 112 i)], (SS bb c), (row I t (fun x => f x && allsN I k t i x) 96), J, 0, 0)
      refine r_icmp okX12_findMaybe rfl (fun (h183 : ¬ (I 112 i) = (nI t)) => ?_) (fun h1830 => ?_)
      · refine r_run okX12_findMaybe 2 (cs := []) (σ' := (166, [some (.ref 100), some (.int (nI n)), some (.int k), some (.int (nI t)), some (.int (nI i + 1)), none], [], (SS bb c), (row I t (fun x => f x && allsN I k t i x) 96), J, 0, 0)) rfl trivial ?_
        rw [← nI_succ]
        rw [row_congr (g := fun x => f x && allsN I k t (i + 1) x) (fun x hx => by simp only [allsN, all_s, relB]; simp [*])]
        exact ih (i + 1) (by omega)
      · have h183 : (I 112 i) = (nI t) := Classical.not_not.mp h1830
        refine r_run okX12_findMaybe 5 (cs := [vp_in (nI i) 300]) (σ' := (194, [some (.ref 100), some (.int (nI n)), some (.int k), some (.int (nI t)), some (.int (nI i)), none], [.int k, .int ((row I t (fun x => f x && allsN I k t i x) 96) 115 ((nI i).toNatClampNeg))], (SS bb c), (row I t (fun x => f x && allsN I k t i x) 96), J, 0, 0)) rfl ⟨(vin (by omega) (by decide)), trivial⟩ ?_
        simp only [ci, rn115]
        show Rj _ _ _ _ _ _ (194, [some (.ref 100), some (.int (nI n)), some (.int k), some (.int (nI t)), some (.int (nI i)), none], [.int k, .int (I 115 i)], (SS bb c), (row I t (fun x => f x && allsN I k t i x) 96), J, 0, 0)
        refine r_icmp okX12_findMaybe rfl (fun (h194 : (I 115 i) ≤ k) => ?_) (fun (h194 : ¬ (I 115 i) ≤ k) => ?_)
        · refine r_run okX12_findMaybe 2 (cs := []) (σ' := (203, [some (.ref 100), some (.int (nI n)), some (.int k), some (.int (nI t)), some (.int (nI i)), some (.int 0)], [], (SS bb c), (row I t (fun x => f x && allsN I k t i x) 96), J, 0, 0)) rfl trivial ?_
          have h := lpD γ (I := I) (J := J) (bb := bb) (c := c) (Post := Post) n t i k (fun x => f x && allsN I k t i x) ht hR hT (by rw [em, nv_nI (by omega)]; omega) ?_ 96 0 rfl
          · rw [row_congr (g := fun x => f x && allsN I k t i x) (fun x hx => by simp [cutF]), nI_0] at h
            exact h
          · refine r_run okX12_findMaybe 2 (cs := []) (σ' := (166, [some (.ref 100), some (.int (nI n)), some (.int k), some (.int (nI t)), some (.int (nI i + 1)), none], [], (SS bb c), (row I t (fun x => (f x && allsN I k t i x) && allB I i x) 96), J, 0, 0)) rfl trivial ?_
            rw [← nI_succ]
            rw [row_congr (g := fun x => f x && allsN I k t (i + 1) x) (fun x hx => by simp only [allsN, all_s, relB]; simp [*, Bool.and_assoc])]
            exact ih (i + 1) (by omega)
        · refine r_run okX12_findMaybe 3 (cs := []) (σ' := (166, [some (.ref 100), some (.int (nI n)), some (.int k), some (.int (nI t)), some (.int (nI i + 1)), none], [], (SS bb c), (row I t (fun x => f x && allsN I k t i x) 96), J, 0, 0)) rfl trivial ?_
          rw [← nI_succ]
          rw [row_congr (g := fun x => f x && allsN I k t (i + 1) x) (fun x hx => by simp only [allsN, all_s, relB]; simp [*])]
          exact ih (i + 1) (by omega)
theorem nI_m1 {n : Nat} (h : n < 2 ^ 31) : ¬ nI n = -1 := by
  intro q
  have a := nI_toInt h
  rw [q] at a
  have : (-1 : Int32).toInt = -1 := by decide
  omega
theorem lpI (γ : GE) {bb c : Bool} {I : AI} {J : AJ} {Post : PT} (n t y : Nat) (k : Int32) (f : Nat → Bool) (ht : t < 720) (hy : y < 96) (K : Rj γ mX12_findMaybe 3 0 0 Post (157, [some (.ref 100), some (.int (nI n)), some (.int k), some (.int (nI t)), some (.int (nI y)), none], [], (SS bb c), (row I t (fun x => f x || goesN (I 100 6) y 9 x) 96), J, 0, 0)) : ∀ (j q : Nat), q + j = 9 → Rj γ mX12_findMaybe 3 0 0 Post (100, [some (.ref 100), some (.int (nI n)), some (.int k), some (.int (nI t)), some (.int (nI y)), some (.int (nI q))], [], (SS bb c), (row I t (fun x => f x || goesN (I 100 6) y q x) 96), J, 0, 0) := by
  intro j
  induction j with
  | zero =>
    intro q hq
    refine r_run okX12_findMaybe 2 (cs := []) (σ' := (104, [some (.ref 100), some (.int (nI n)), some (.int k), some (.int (nI t)), some (.int (nI y)), some (.int (nI q))], [.int 9, .int (nI q)], (SS bb c), (row I t (fun x => f x || goesN (I 100 6) y q x) 96), J, 0, 0)) rfl trivial ?_
    refine r_icmp okX12_findMaybe rfl (fun (h104 : (9 : Int32) ≤ (nI q)) => ?_) (fun (h104 : ¬ (9 : Int32) ≤ (nI q)) => ?_)
    · rw [show q = 9 by omega]
      refine r_weak (L' := [some (.ref 100), some (.int (nI n)), some (.int k), some (.int (nI t)), some (.int (nI y)), none]) ⟨rfl, rfl, rfl, rfl, rfl, trivial⟩ K
    · exact absurd (nI_le (a := 9) (by omega) (by omega)) h104
  | succ j ih =>
    intro q hq
    have rn6 : (row I t (fun x => f x || goesN (I 100 6) y q x) 96) 100 6 = I 100 6 := by rw [row_ne (by decide)]
    refine r_run okX12_findMaybe 2 (cs := []) (σ' := (104, [some (.ref 100), some (.int (nI n)), some (.int k), some (.int (nI t)), some (.int (nI y)), some (.int (nI q))], [.int 9, .int (nI q)], (SS bb c), (row I t (fun x => f x || goesN (I 100 6) y q x) 96), J, 0, 0)) rfl trivial ?_
    refine r_icmp okX12_findMaybe rfl (fun (h104 : (9 : Int32) ≤ (nI q)) => ?_) (fun (h104 : ¬ (9 : Int32) ≤ (nI q)) => ?_)
    · exact absurd h104 (nI_ge (b := 9) (by omega) (by decide))
    · refine r_run okX12_findMaybe 7 (cs := []) (σ' := (117, [some (.ref 100), some (.int (nI n)), some (.int k), some (.int (nI t)), some (.int (nI y)), some (.int (nI q))], [.int 1, .int ((((row I t (fun x => f x || goesN (I 100 6) y q x) 96) 100 6) >>> ((nI q) &&& 31)) &&& 1)], (SS bb c), (row I t (fun x => f x || goesN (I 100 6) y q x) 96), J, 0, 0)) rfl trivial ?_
      simp only [rn6]
      show Rj _ _ _ _ _ _ (117, [some (.ref 100), some (.int (nI n)), some (.int k), some (.int (nI t)), some (.int (nI y)), some (.int (nI q))], [.int 1, .int (((I 100 6) >>> ((nI q) &&& 31)) &&& 1)], (SS bb c), (row I t (fun x => f x || goesN (I 100 6) y q x) 96), J, 0, 0)
      refine r_icmp okX12_findMaybe rfl (fun (h117 : ¬ (((I 100 6) >>> ((nI q) &&& 31)) &&& 1) = (1 : Int32)) => ?_) (fun h1170 => ?_)
      · have hon : mvOn (I 100 6) q = false := by simp [mvOn, h117]
        refine r_run okX12_findMaybe 2 (cs := []) (σ' := (100, [some (.ref 100), some (.int (nI n)), some (.int k), some (.int (nI t)), some (.int (nI y)), some (.int (nI q + 1))], [], (SS bb c), (row I t (fun x => f x || goesN (I 100 6) y q x) 96), J, 0, 0)) rfl trivial ?_
        rw [← nI_succ]
        rw [row_congr (g := fun x => f x || goesN (I 100 6) y (q + 1) x) (fun x hx => by simp only [goesN, any_s]; simp [*])]
        exact ih (q + 1) (by omega)
      · have h117 : (((I 100 6) >>> ((nI q) &&& 31)) &&& 1) = (1 : Int32) := Classical.not_not.mp h1170
        have hon : mvOn (I 100 6) q = true := by simp [mvOn, h117]
        refine r_run okX12_findMaybe 3 (cs := []) (σ' := (125, [some (.ref 100), some (.int (nI n)), some (.int k), some (.int (nI t)), some (.int (nI y)), some (.int (nI q))], [.int (nI q), .int (nI y), .ref 100], (SS bb c), (row I t (fun x => f x || goesN (I 100 6) y q x) 96), J, 0, 0)) rfl trivial ?_
        refine r_callV okX12_findMaybe okX12_moved [.int (nI y), .int (nI q)] [] 100 rfl rfl rfl kkX12_moved rfl rfl (by decide) rfl rfl rfl (by decide) ⟨Nat.le_refl _, Nat.le_refl _⟩ (Nat.le_of_ble_eq_true rfl) (c_moved0 γ y q hy (by omega)) (fun v1 S1 I1 J1 hp => ?_)
        obtain ⟨rfl, rfl, rfl, rfl⟩ := hp
        show Rj _ _ _ _ _ _ (128, [some (.ref 100), some (.int (nI n)), some (.int k), some (.int (nI t)), some (.int (nI y)), some (.int (nI q))], [.int (movI y q)], (SS bb c), (row I t (fun x => f x || goesN (I 100 6) y q x) 96), J, 0, 0)
        refine r_run okX12_findMaybe 1 (cs := []) (σ' := (129, [some (.ref 100), some (.int (nI n)), some (.int k), some (.int (nI t)), some (.int (nI y)), some (.int (nI q))], [.int (-1), .int (movI y q)], (SS bb c), (row I t (fun x => f x || goesN (I 100 6) y q x) 96), J, 0, 0)) rfl trivial ?_
        refine r_icmp okX12_findMaybe rfl (fun (h129 : (movI y q) = ((-1) : Int32)) => ?_) (fun (h129 : ¬ (movI y q) = ((-1) : Int32)) => ?_)
        · have hok : mvOK y q = false := by
            cases e : mvOK y q with
            | false => rfl
            | true =>
              unfold movI at h129
              rw [e, if_pos rfl] at h129
              exact absurd h129 (nI_m1 (by have := ((mv_dec y hy q (by omega)).2 e).2; omega))
          refine r_run okX12_findMaybe 2 (cs := []) (σ' := (100, [some (.ref 100), some (.int (nI n)), some (.int k), some (.int (nI t)), some (.int (nI y)), some (.int (nI q + 1))], [], (SS bb c), (row I t (fun x => f x || goesN (I 100 6) y q x) 96), J, 0, 0)) rfl trivial ?_
          rw [← nI_succ]
          rw [row_congr (g := fun x => f x || goesN (I 100 6) y (q + 1) x) (fun x hx => by simp only [goesN, any_s]; simp [*])]
          exact ih (q + 1) (by omega)
        · have hok : mvOK y q = true := by
            cases e : mvOK y q with
            | true => rfl
            | false => exact absurd (by unfold movI; rw [e]; rfl) h129
          have ez : movI y q = nI (mvT y q) := by unfold movI; rw [hok]; rfl
          have hz : mvT y q < 96 := ((mv_dec y hy q (by omega)).2 hok).2
          have cz : ((96 : Int32) * nI t + movI y q).toNatClampNeg = 96 * t + mvT y q := by rw [ez]; exact mul_ix (a := 96) (by omega)
          have vz : vp_in ((96 : Int32) * nI t + movI y q) 69120 := by rw [ez, show (96 : Int32) * nI t + nI (mvT y q) = nI (96 * t + mvT y q) from mul_add_nI 96 t _]; exact vin (by omega) (by decide)
          refine r_run okX12_findMaybe 8 (cs := []) (σ' := (145, [some (.ref 100), some (.int (nI n)), some (.int k), some (.int (nI t)), some (.int (nI y)), some (.int (nI q))], [.int (nI q), .int (nI y), .ref 100, .int (96 * (nI t)), .ref 116], (SS bb c), (row I t (fun x => f x || goesN (I 100 6) y q x) 96), J, 0, 0)) rfl trivial ?_
          refine r_callV okX12_findMaybe okX12_moved [.int (nI y), .int (nI q)] [.int (96 * (nI t)), .ref 116] 100 rfl rfl rfl kkX12_moved rfl rfl (by decide) rfl rfl rfl (by decide) ⟨Nat.le_refl _, Nat.le_refl _⟩ (Nat.le_of_ble_eq_true rfl) (c_moved0 γ y q hy (by omega)) (fun v1 S1 I1 J1 hp => ?_)
          obtain ⟨rfl, rfl, rfl, rfl⟩ := hp
          show Rj _ _ _ _ _ _ (148, [some (.ref 100), some (.int (nI n)), some (.int k), some (.int (nI t)), some (.int (nI y)), some (.int (nI q))], [.int (movI y q), .int (96 * (nI t)), .ref 116], (SS bb c), (row I t (fun x => f x || goesN (I 100 6) y q x) 96), J, 0, 0)
          refine r_run okX12_findMaybe 5 (cs := [vp_in ((96 * (nI t)) + (movI y q)) 69120, bz 1]) (σ' := (100, [some (.ref 100), some (.int (nI n)), some (.int k), some (.int (nI t)), some (.int (nI y)), some (.int (nI q + 1))], [], (SS bb c), (upI (row I t (fun x => f x || goesN (I 100 6) y q x) 96) 116 (((96 * (nI t)) + (movI y q)).toNatClampNeg) 1), J, 0, 0)) rfl ⟨vz, (Or.inr rfl), trivial⟩ ?_
          simp only [cz]
          show Rj _ _ _ _ _ _ (100, [some (.ref 100), some (.int (nI n)), some (.int k), some (.int (nI t)), some (.int (nI y)), some (.int (nI q + 1))], [], (SS bb c), (upI (row I t (fun x => f x || goesN (I 100 6) y q x) 96) 116 (96 * t + mvT y q) 1), J, 0, 0)
          rw [← nI_succ, show (1 : Int32) = bi true from rfl, row_up hz]
          rw [row_congr (g := fun x => f x || goesN (I 100 6) y (q + 1) x) (fun x hx => by simp only [goesN, any_s, hon, hok, updB]; by_cases e : x = mvT y q; (· subst e; simp); (· simp [e, Ne.symm e]))]
          exact ih (q + 1) (by omega)
theorem lpB (γ : GE) {bb c : Bool} {I : AI} {J : AJ} {Post : PT} (n s : Nat) (k : Int32) (fp : Nat → Bool) (ht : s < 719) (hst : I 100 7 < nI (s + 1)) (hfp : ∀ y, y < 96 → I 116 (96 * s + y) = bi (fp y)) (K : Rj γ mX12_findMaybe 3 0 0 Post (163, [some (.ref 100), some (.int (nI n)), some (.int k), some (.int (nI (s + 1))), none, none], [], (SS bb c), (row I (s + 1) (fun x => fromN (I 100 6) fp 96 x) 96), J, 0, 0)) : ∀ (j y : Nat), y + j = 96 → Rj γ mX12_findMaybe 3 0 0 Post (62, [some (.ref 100), some (.int (nI n)), some (.int k), some (.int (nI (s + 1))), some (.int (nI y)), none], [], (SS bb c), (row I (s + 1) (fun x => fromN (I 100 6) fp y x) 96), J, 0, 0) := by
  intro j
  induction j with
  | zero =>
    intro y hy
    refine r_run okX12_findMaybe 2 (cs := []) (σ' := (66, [some (.ref 100), some (.int (nI n)), some (.int k), some (.int (nI (s + 1))), some (.int (nI y)), none], [.int 96, .int (nI y)], (SS bb c), (row I (s + 1) (fun x => fromN (I 100 6) fp y x) 96), J, 0, 0)) rfl trivial ?_
    refine r_icmp okX12_findMaybe rfl (fun (h66 : (96 : Int32) ≤ (nI y)) => ?_) (fun (h66 : ¬ (96 : Int32) ≤ (nI y)) => ?_)
    · rw [show y = 96 by omega]
      refine r_weak (L' := [some (.ref 100), some (.int (nI n)), some (.int k), some (.int (nI (s + 1))), none, none]) ⟨rfl, rfl, rfl, rfl, trivial⟩ K
    · exact absurd (nI_le (a := 96) (by omega) (by omega)) h66
  | succ j ih =>
    intro y hy
    have rn7 : (row I (s + 1) (fun x => fromN (I 100 6) fp y x) 96) 100 7 = I 100 7 := by rw [row_ne (by decide)]
    have ez : (96 : Int32) * (nI (s + 1) - 1) + nI y = nI (96 * s + y) := by rw [nI_pred]; exact mul_add_nI 96 s y
    have cz : ((96 : Int32) * (nI (s + 1) - 1) + nI y).toNatClampNeg = 96 * s + y := by rw [ez]; exact nI_clamp (by omega)
    have vz : vp_in ((96 : Int32) * (nI (s + 1) - 1) + nI y) 69120 := by rw [ez]; exact vin (by omega) (by decide)
    have rb : (row I (s + 1) (fun x => fromN (I 100 6) fp y x) 96) 116 (96 * s + y) = bi (fp y) := by rw [row_lo (by omega)]; exact hfp y (by omega)
    refine r_run okX12_findMaybe 2 (cs := []) (σ' := (66, [some (.ref 100), some (.int (nI n)), some (.int k), some (.int (nI (s + 1))), some (.int (nI y)), none], [.int 96, .int (nI y)], (SS bb c), (row I (s + 1) (fun x => fromN (I 100 6) fp y x) 96), J, 0, 0)) rfl trivial ?_
    refine r_icmp okX12_findMaybe rfl (fun (h66 : (96 : Int32) ≤ (nI y)) => ?_) (fun (h66 : ¬ (96 : Int32) ≤ (nI y)) => ?_)
    · exact absurd h66 (nI_ge (b := 96) (by omega) (by decide))
    · refine r_run okX12_findMaybe 3 (cs := []) (σ' := (74, [some (.ref 100), some (.int (nI n)), some (.int k), some (.int (nI (s + 1))), some (.int (nI y)), none], [.int ((row I (s + 1) (fun x => fromN (I 100 6) fp y x) 96) 100 7), .int (nI (s + 1))], (SS bb c), (row I (s + 1) (fun x => fromN (I 100 6) fp y x) 96), J, 0, 0)) rfl trivial ?_
      simp only [rn7]
      show Rj _ _ _ _ _ _ (74, [some (.ref 100), some (.int (nI n)), some (.int k), some (.int (nI (s + 1))), some (.int (nI y)), none], [.int (I 100 7), .int (nI (s + 1))], (SS bb c), (row I (s + 1) (fun x => fromN (I 100 6) fp y x) 96), J, 0, 0)
      refine r_icmp okX12_findMaybe rfl (fun (h74 : (nI (s + 1)) ≤ (I 100 7)) => ?_) (fun (h74 : ¬ (nI (s + 1)) ≤ (I 100 7)) => ?_)
      · exact absurd hst (Int32.not_lt.mpr h74)
      · refine r_run okX12_findMaybe 10 (cs := [vp_in ((96 * ((nI (s + 1)) - 1)) + (nI y)) 69120]) (σ' := (91, [some (.ref 100), some (.int (nI n)), some (.int k), some (.int (nI (s + 1))), some (.int (nI y)), none], [.int ((row I (s + 1) (fun x => fromN (I 100 6) fp y x) 96) 116 (((96 * ((nI (s + 1)) - 1)) + (nI y)).toNatClampNeg))], (SS bb c), (row I (s + 1) (fun x => fromN (I 100 6) fp y x) 96), J, 0, 0)) rfl ⟨vz, trivial⟩ ?_
        simp only [cz, rb]
        show Rj _ _ _ _ _ _ (91, [some (.ref 100), some (.int (nI n)), some (.int k), some (.int (nI (s + 1))), some (.int (nI y)), none], [.int (bi (fp y))], (SS bb c), (row I (s + 1) (fun x => fromN (I 100 6) fp y x) 96), J, 0, 0)
        refine r_ifc okX12_findMaybe rfl (fun (h91 : ¬ (bi (fp y)) = (0 : Int32)) => ?_) (fun h910 => ?_)
        · have hs := bi_n0.mp h91
          refine r_run okX12_findMaybe 2 (cs := []) (σ' := (100, [some (.ref 100), some (.int (nI n)), some (.int k), some (.int (nI (s + 1))), some (.int (nI y)), some (.int 0)], [], (SS bb c), (row I (s + 1) (fun x => fromN (I 100 6) fp y x) 96), J, 0, 0)) rfl trivial ?_
          have h := lpI γ (I := I) (J := J) (bb := bb) (c := c) (Post := Post) n (s + 1) y k (fun x => fromN (I 100 6) fp y x) (by omega) (by omega) ?_ 9 0 rfl
          · rw [row_congr (g := fun x => fromN (I 100 6) fp y x) (fun x hx => by simp [goesN]), nI_0] at h
            exact h
          · refine r_run okX12_findMaybe 2 (cs := []) (σ' := (62, [some (.ref 100), some (.int (nI n)), some (.int k), some (.int (nI (s + 1))), some (.int (nI y + 1)), none], [], (SS bb c), (row I (s + 1) (fun x => fromN (I 100 6) fp y x || goesN (I 100 6) y 9 x) 96), J, 0, 0)) rfl trivial ?_
            rw [← nI_succ]
            rw [row_congr (g := fun x => fromN (I 100 6) fp (y + 1) x) (fun x hx => by simp only [fromN, any_s, hs]; simp)]
            exact ih (y + 1) (by omega)
        · have h91 : (bi (fp y)) = (0 : Int32) := Classical.not_not.mp h910
          have hs := bi_0.mp h91
          refine r_run okX12_findMaybe 3 (cs := []) (σ' := (62, [some (.ref 100), some (.int (nI n)), some (.int k), some (.int (nI (s + 1))), some (.int (nI y + 1)), none], [], (SS bb c), (row I (s + 1) (fun x => fromN (I 100 6) fp y x) 96), J, 0, 0)) rfl trivial ?_
          rw [← nI_succ]
          rw [row_congr (g := fun x => fromN (I 100 6) fp (y + 1) x) (fun x hx => by simp only [fromN, any_s, hs]; simp)]
          exact ih (y + 1) (by omega)
theorem allsN_c {I I' : AI} (h : ∀ a, a ≠ 116 → I' a = I a) (k : Int32) (t n x : Nat) : allsN I' k t n x = allsN I k t n x := by
  unfold allsN relB
  rw [h 112 (by decide), h 115 (by decide)]
  congr 1
  funext i
  rw [allB_c h]
theorem mayB_eq {I : AI} {k : Int32} {t x : Nat} : mayB I k t x = (if nI t < I 100 7 then false else (if nI t = I 100 7 then true else (match t with | 0 => false | s + 1 => fromN (I 100 6) (mayB I k s) 96 x)) && allsN I k t (nv (I 100 13)) x) := by
  cases t with
  | zero =>
    unfold mayB
    rw [nI_0]
    by_cases h : (0 : Int32) < I 100 7
    · rw [if_pos h, decide_eq_false (fun e => absurd h (by rw [← e]; decide))]; rfl
    · rw [if_neg h]
      by_cases h1 : (0 : Int32) = I 100 7
      · simp [h1]
      · simp [h1]
  | succ s => rfl
theorem lpT (γ : GE) {bb c : Bool} {I : AI} {J : AJ} (n : Nat) (k : Int32) (hn : n < 720) (hR : MRad I) (hT : MTel I) (hs : rg 720 (I 100 7)) : ∀ (j t : Nat), t + j = n + 1 → Rj γ mX12_findMaybe 3 0 0 (rV (SS bb c) (memM I k (n + 1)) J) (2, [some (.ref 100), some (.int (nI n)), some (.int k), some (.int (nI t)), none, none], [], (SS bb c), (memM I k t), J, 0, 0) := by
  intro j
  induction j with
  | zero =>
    intro t ht
    refine r_run okX12_findMaybe 2 (cs := []) (σ' := (4, [some (.ref 100), some (.int (nI n)), some (.int k), some (.int (nI t)), none, none], [.int (nI n), .int (nI t)], (SS bb c), (memM I k t), J, 0, 0)) rfl trivial ?_
    refine r_icmp okX12_findMaybe rfl (fun (h4 : (nI n) < (nI t)) => ?_) (fun (h4 : ¬ (nI n) < (nI t)) => ?_)
    · refine r_vret okX12_findMaybe rfl rfl (Nat.le_refl _) (Nat.le_refl _) ?_
      rw [show t = n + 1 by omega]
      exact ⟨rfl, rfl, rfl, rfl⟩
    · exact absurd (nI_lt (by omega) (by omega)) h4
  | succ j ih =>
    intro t ht
    have hR1 : MRad (memM I k t) := MRad_c (fun a h => memM_ne h) hR
    have hT1 : MTel (memM I k t) := MTel_c (fun a h => memM_ne h) hT
    have e7 : memM I k t 100 7 = I 100 7 := by rw [memM_ne (by decide)]
    have e13 : memM I k t 100 13 = I 100 13 := by rw [memM_ne (by decide)]
    obtain ⟨m, hm, em⟩ := hT.1
    -- behind the row: the next minute
    have next : Rj γ mX12_findMaybe 3 0 0 (rV (SS bb c) (memM I k (n + 1)) J) (246, [some (.ref 100), some (.int (nI n)), some (.int k), some (.int (nI t)), none, none], [], (SS bb c), (memM I k (t + 1)), J, 0, 0) := by
      refine r_run okX12_findMaybe 2 (cs := []) (σ' := (2, [some (.ref 100), some (.int (nI n)), some (.int k), some (.int (nI t + 1)), none, none], [], (SS bb c), (memM I k (t + 1)), J, 0, 0)) rfl trivial ?_
      rw [← nI_succ]
      exact ih (t + 1) (by omega)
    have tells : ∀ f : Nat → Bool, (∀ x, x < 96 → (f x && allsN (memM I k t) k t (nv (memM I k t 100 13)) x) = mayB I k t x) → Rj γ mX12_findMaybe 3 0 0 (rV (SS bb c) (memM I k (n + 1)) J) (163, [some (.ref 100), some (.int (nI n)), some (.int k), some (.int (nI t)), none, none], [], (SS bb c), (row (memM I k t) t f 96), J, 0, 0) := by
      intro f hf
      refine r_run okX12_findMaybe 2 (cs := []) (σ' := (166, [some (.ref 100), some (.int (nI n)), some (.int k), some (.int (nI t)), some (.int 0), none], [], (SS bb c), (row (memM I k t) t f 96), J, 0, 0)) rfl trivial ?_
      have h := lpC γ (I := memM I k t) (J := J) (bb := bb) (c := c) (Post := rV (SS bb c) (memM I k (n + 1)) J) n t m k f (by omega) hR1 hT1 hm (e13.trans em) ?_ m 0 (by omega)
      · rw [row_congr (g := f) (fun x hx => by simp [allsN]), nI_0] at h
        exact h
      · rw [memM_s hf]
        exact next
    have r7 : (row (memM I k t) t (fun _ => decide (nI t = memM I k t 100 7)) 96) 100 7 = I 100 7 := by rw [row_ne (by decide)]; exact e7
    have body : Rj γ mX12_findMaybe 3 0 0 (rV (SS bb c) (memM I k (n + 1)) J) (48, [some (.ref 100), some (.int (nI n)), some (.int k), some (.int (nI t)), none, none], [], (SS bb c), (row (memM I k t) t (fun _ => decide (nI t = memM I k t 100 7)) 96), J, 0, 0) := by
      refine r_run okX12_findMaybe 3 (cs := []) (σ' := (53, [some (.ref 100), some (.int (nI n)), some (.int k), some (.int (nI t)), none, none], [.int ((row (memM I k t) t (fun _ => decide (nI t = memM I k t 100 7)) 96) 100 7), .int (nI t)], (SS bb c), (row (memM I k t) t (fun _ => decide (nI t = memM I k t 100 7)) 96), J, 0, 0)) rfl trivial ?_
      simp only [r7]
      show Rj _ _ _ _ _ _ (53, [some (.ref 100), some (.int (nI n)), some (.int k), some (.int (nI t)), none, none], [.int (I 100 7), .int (nI t)], (SS bb c), (row (memM I k t) t (fun _ => decide (nI t = memM I k t 100 7)) 96), J, 0, 0)
      refine r_icmp okX12_findMaybe rfl (fun (h53 : (I 100 7) ≤ (nI t)) => ?_) (fun (h53 : ¬ (I 100 7) ≤ (nI t)) => ?_)
      · refine r_run okX12_findMaybe 2 (cs := []) (σ' := (62, [some (.ref 100), some (.int (nI n)), some (.int k), some (.int (nI t)), some (.int 0), none], [], (SS bb c), (row (memM I k t) t (fun _ => decide (nI t = memM I k t 100 7)) 96), J, 0, 0)) rfl trivial ?_
        by_cases hgt : I 100 7 < nI t
        · obtain ⟨s, rfl⟩ : ∃ s, t = s + 1 := ⟨t - 1, by cases t with | zero => (obtain ⟨z, hz, ez⟩ := hs; rw [ez, nI_0] at hgt; exact absurd hgt (nI_pos (by omega))) | succ q => rfl⟩
          have h := lpB γ (I := memM I k (s + 1)) (J := J) (bb := bb) (c := c) n s k (mayB I k s) (by omega) (by rw [e7]; exact hgt) (fun y hy => memM_at (by omega) hy) (tells _ (fun x hx => ?_)) 96 0 rfl
          · rw [row_congr (g := fun _ => decide (nI (s + 1) = memM I k (s + 1) 100 7)) (fun x hx => by rw [e7, decide_eq_false (fun e => absurd hgt (by rw [← e]; exact Int32.lt_irrefl))]; simp [fromN]), nI_0] at h
            exact h
          · rw [mayB_eq, if_neg (Int32.not_lt.mpr h53), if_neg (fun e => absurd hgt (by rw [← e]; exact Int32.lt_irrefl)), allsN_c (fun a h => memM_ne h), e13, memM_ne (by decide)]
        · refine r_run okX12_findMaybe 2 (cs := []) (σ' := (66, [some (.ref 100), some (.int (nI n)), some (.int k), some (.int (nI t)), some (.int 0), none], [.int 96, .int 0], (SS bb c), (row (memM I k t) t (fun _ => decide (nI t = memM I k t 100 7)) 96), J, 0, 0)) rfl trivial ?_
          refine r_icmp okX12_findMaybe rfl (fun (h66 : (96 : Int32) ≤ (0 : Int32)) => ?_) (fun (h66 : ¬ (96 : Int32) ≤ (0 : Int32)) => ?_)
          · exact absurd h66 (by decide)
          · refine r_run okX12_findMaybe 3 (cs := []) (σ' := (74, [some (.ref 100), some (.int (nI n)), some (.int k), some (.int (nI t)), some (.int 0), none], [.int ((row (memM I k t) t (fun _ => decide (nI t = memM I k t 100 7)) 96) 100 7), .int (nI t)], (SS bb c), (row (memM I k t) t (fun _ => decide (nI t = memM I k t 100 7)) 96), J, 0, 0)) rfl trivial ?_
            simp only [r7]
            show Rj _ _ _ _ _ _ (74, [some (.ref 100), some (.int (nI n)), some (.int k), some (.int (nI t)), some (.int 0), none], [.int (I 100 7), .int (nI t)], (SS bb c), (row (memM I k t) t (fun _ => decide (nI t = memM I k t 100 7)) 96), J, 0, 0)
            refine r_icmp okX12_findMaybe rfl (fun (h74 : (nI t) ≤ (I 100 7)) => ?_) (fun (h74 : ¬ (nI t) ≤ (I 100 7)) => ?_)
            · refine r_weak (L' := [some (.ref 100), some (.int (nI n)), some (.int k), some (.int (nI t)), none, none]) ⟨rfl, rfl, rfl, rfl, trivial⟩ ?_
              have et : nI t = I 100 7 := Int32.le_antisymm (Int32.not_lt.mp hgt) h53
              exact tells _ (fun x hx => by rw [mayB_eq, if_neg (Int32.not_lt.mpr h53), if_pos et, allsN_c (fun a h => memM_ne h), e13, e7, et]; simp)
            · exact absurd (Int32.not_le.mp h74) hgt
      · refine r_run okX12_findMaybe 1 (cs := []) (σ' := (246, [some (.ref 100), some (.int (nI n)), some (.int k), some (.int (nI t)), none, none], [], (SS bb c), (row (memM I k t) t (fun _ => decide (nI t = memM I k t 100 7)) 96), J, 0, 0)) rfl trivial ?_
        rw [memM_s (fun x hx => by rw [mayB_eq, if_pos (Int32.not_le.mp h53), e7, decide_eq_false (fun e => h53 (by rw [← e]; exact Int32.le_refl _))])]
        exact next
    refine r_run okX12_findMaybe 2 (cs := []) (σ' := (4, [some (.ref 100), some (.int (nI n)), some (.int k), some (.int (nI t)), none, none], [.int (nI n), .int (nI t)], (SS bb c), (memM I k t), J, 0, 0)) rfl trivial ?_
    refine r_icmp okX12_findMaybe rfl (fun (h4 : (nI n) < (nI t)) => ?_) (fun (h4 : ¬ (nI n) < (nI t)) => ?_)
    · exact absurd h4 (nI_nlt (by omega) (by omega))
    · refine r_run okX12_findMaybe 2 (cs := []) (σ' := (10, [some (.ref 100), some (.int (nI n)), some (.int k), some (.int (nI t)), some (.int 0), none], [], (SS bb c), (memM I k t), J, 0, 0)) rfl trivial ?_
      have h := lpA γ (I := memM I k t) (J := J) (bb := bb) (c := c) n t k hn (by omega) body 96 0 rfl
      rw [row_0, nI_0] at h
      exact h
theorem c_findMaybe0 (γ : GE) {bb c : Bool} {I : AI} {J : AJ} (n : Nat) (k : Int32) (hn : n < 720) (hR : MRad I) (hT : MTel I) (hs : rg 720 (I 100 7)) : Ct γ mX12_findMaybe 3 0 0 [.ref 100, .int (nI n), .int k] (SS bb c) I J (rV (SS bb c) (memM I k (n + 1)) J) := by
  refine ct_of okX12_findMaybe (L := [some (.ref 100), some (.int (nI n)), some (.int k), none, none, none]) (Nat.le_of_ble_eq_true rfl) rfl ?_
  refine r_run okX12_findMaybe 2 (cs := []) (σ' := (2, [some (.ref 100), some (.int (nI n)), some (.int k), some (.int 0), none, none], [], (SS bb c), I, J, 0, 0)) rfl trivial ?_
  have h := lpT γ (I := I) (J := J) (bb := bb) (c := c) n k hn hR hT hs (n + 1) 0 (by omega)
  rw [memM_0, nI_0] at h
  exact h
