/-! ===== going by moves, bit by bit ===== -/
theorem q_west : ∀ j, j < 48 → bt6 (-68736258050) j = decide (¬ j % 12 = 0) := by decide +kernel
theorem q_east : ∀ j, j < 48 → bt6 (-140771856484353) j = decide (¬ j % 12 = 11) := by decide +kernel
/-- sideways, of any set f -/
def swF (d : Int32) (f : Nat → Bool) (c : Nat) : Bool := (decide (¬ d &&& 1 = 0) && (decide (¬ (c + 1) % 12 = 0) && f (c + 1))) || ((decide (¬ d &&& 2 = 0) && f c) || (decide (¬ d &&& 4 = 0) && (decide (¬ c % 12 = 0) && f (c - 1))))
theorem q_swy {x : Int64} (hx : w48 x) (d : Int32) {i : Nat} (hi : i < 48) : bt6 (swy x d) i = swF d (bt6 x) i := by
  have ea : bt6 (((x &&& (-68736258050)).toUInt64 >>> ((1 : Int32).toInt64.toUInt64 &&& Int64.toUInt64 63)).toInt64) i = (decide (¬ (i + 1) % 12 = 0) && bt6 x (i + 1)) := by
    have h := q_ushr (k := 1) (by omega) (x &&& (-68736258050)) i
    refine h.trans ?_
    rw [q_and, Nat.add_comm 1 i]
    by_cases h1 : i + 1 < 48
    · rw [q_west _ h1, Bool.and_comm]
    · rw [hx (i + 1) (by omega)]; simp
  have ec : bt6 ((x &&& (-140771856484353)) <<< ((1 : Int32).toInt64 &&& 63)) i = (decide (¬ i % 12 = 0) && bt6 x (i - 1)) := by
    have h := q_shl (k := 1) (by omega) (x &&& (-140771856484353)) i
    refine h.trans ?_
    by_cases h1 : 1 ≤ i
    · rw [q_and, q_east _ (by omega)]
      have : (¬ (i - 1) % 12 = 11) = (¬ i % 12 = 0) := by apply propext; omega
      simp only [this]
      simp [h1, show i < 64 by omega, Bool.and_comm]
    · have : i = 0 := by omega
      subst this; simp
  unfold swy swF
  generalize ((x &&& (-68736258050)).toUInt64 >>> ((1 : Int32).toInt64.toUInt64 &&& Int64.toUInt64 63)).toInt64 = A at ea ⊢
  generalize (x &&& (-140771856484353)) <<< ((1 : Int32).toInt64 &&& 63) = B at ec ⊢
  by_cases h1 : d &&& 1 = 0 <;> by_cases h2 : d &&& 2 = 0 <;> by_cases h4 : d &&& 4 = 0 <;> simp [h1, h2, h4, q_or, q_0, ea, ec, Bool.or_assoc]
theorem w_swy {x : Int64} (hx : w48 x) (d : Int32) : w48 (swy x d) := by
  intro i hi
  have ea : bt6 (((x &&& (-68736258050)).toUInt64 >>> ((1 : Int32).toInt64.toUInt64 &&& Int64.toUInt64 63)).toInt64) i = false := by
    have h := q_ushr (k := 1) (by omega) (x &&& (-68736258050)) i
    refine h.trans ?_
    rw [q_and, hx (1 + i) (by omega)]; rfl
  have ec : bt6 ((x &&& (-140771856484353)) <<< ((1 : Int32).toInt64 &&& 63)) i = false := by
    have h := q_shl (k := 1) (by omega) (x &&& (-140771856484353)) i
    refine h.trans ?_
    rw [q_and]
    by_cases h1 : i = 48
    · subst h1; rw [q_east 47 (by omega)]; simp
    · rw [hx (i - 1) (by omega)]; simp
  unfold swy
  generalize ((x &&& (-68736258050)).toUInt64 >>> ((1 : Int32).toInt64.toUInt64 &&& Int64.toUInt64 63)).toInt64 = A at ea ⊢
  generalize (x &&& (-140771856484353)) <<< ((1 : Int32).toInt64 &&& 63) = B at ec ⊢
  by_cases h1 : d &&& 1 = 0 <;> by_cases h2 : d &&& 2 = 0 <;> by_cases h4 : d &&& 4 = 0 <;> simp [h1, h2, h4, q_or, q_0, ea, ec, hx i hi]
theorem swF_lo {x y : Int64} (hx : w48 x) (d : Int32) {c : Nat} (hc : c < 48) : swF d (bt6 x) c = swF d (hs x y) c := by
  have e0 : hs x y c = bt6 x c := by unfold hs; rw [if_pos hc]
  have e1 : hs x y (c - 1) = bt6 x (c - 1) := by unfold hs; rw [if_pos (by omega)]
  unfold swF
  rw [e0, e1]
  by_cases h : (c + 1) % 12 = 0
  · simp [h]
  · have e2 : hs x y (c + 1) = bt6 x (c + 1) := by unfold hs; rw [if_pos (by omega)]
    rw [e2]
theorem swF_hi {x y : Int64} (d : Int32) {c : Nat} (hc : 48 ≤ c) : swF d (bt6 y) (c - 48) = swF d (hs x y) c := by
  have e0 : hs x y c = bt6 y (c - 48) := by unfold hs; rw [if_neg (by omega)]
  have e1 : hs x y (c + 1) = bt6 y (c - 48 + 1) := by unfold hs; rw [if_neg (by omega)]; congr 1; omega
  have a1 : ((c - 48 + 1) % 12 = 0) = ((c + 1) % 12 = 0) := by apply propext; omega
  have a2 : ((c - 48) % 12 = 0) = (c % 12 = 0) := by apply propext; omega
  unfold swF
  rw [e0, e1]
  simp only [a1, a2]
  by_cases h : c % 12 = 0
  · simp [h]
  · have e2 : hs x y (c - 1) = bt6 y (c - 48 - 1) := by unfold hs; rw [if_neg (by omega)]; congr 1
    rw [e2]
theorem q_4095 (i : Nat) : bt6 4095 i = decide (i < 12) := by
  by_cases h : i < 64
  · have : ∀ i, i < 64 → bt6 4095 i = decide (i < 12) := by decide +kernel
    exact this i h
  · rw [q_big (by omega)]; simp; omega
/-- the set behind the moves, by rows -/
def sprF (m : Int32) (f : Nat → Bool) (c : Nat) : Bool := swF ((m >>> ((3 : Int32) &&& 31)) &&& 7) f c || ((decide (c + 12 < 96) && swF (m &&& 7) f (c + 12)) || (decide (12 ≤ c) && swF ((m >>> ((6 : Int32) &&& 31)) &&& 7) f (c - 12)))
theorem spr_F {x y : Int64} (hx : w48 x) (hy : w48 y) (m : Int32) {c : Nat} (hc : c < 96) : hs (sprLo x y m) (sprHi x y m) c = sprF m (hs x y) c := by
  unfold sprLo sprHi sprF
  generalize (m >>> ((3 : Int32) &&& 31)) &&& 7 = dl
  generalize (m >>> ((6 : Int32) &&& 31)) &&& 7 = dd
  generalize m &&& 7 = du
  have u12 := fun (z : Int64) (i : Nat) => q_ushr (k := 12) (by omega) z i
  have u36 := fun (z : Int64) (i : Nat) => q_ushr (k := 36) (by omega) z i
  have l12 := fun (z : Int64) (i : Nat) => q_shl (k := 12) (by omega) z i
  have l36 := fun (z : Int64) (i : Nat) => q_shl (k := 36) (by omega) z i
  change ∀ (z : Int64) (i : Nat), bt6 ((z.toUInt64 >>> ((12 : Int32).toInt64.toUInt64 &&& Int64.toUInt64 63)).toInt64) i = bt6 z (12 + i) at u12
  change ∀ (z : Int64) (i : Nat), bt6 ((z.toUInt64 >>> ((36 : Int32).toInt64.toUInt64 &&& Int64.toUInt64 63)).toInt64) i = bt6 z (36 + i) at u36
  change ∀ (z : Int64) (i : Nat), bt6 (z <<< ((12 : Int32).toInt64 &&& 63)) i = (decide (i < 64) && (decide (12 ≤ i) && bt6 z (i - 12))) at l12
  change ∀ (z : Int64) (i : Nat), bt6 (z <<< ((36 : Int32).toInt64 &&& 63)) i = (decide (i < 64) && (decide (36 ≤ i) && bt6 z (i - 36))) at l36
  by_cases h : c < 48
  · have e0 : ∀ z w, hs z w c = bt6 z c := fun z w => by unfold hs; rw [if_pos h]
    rw [e0, q_or, q_or, q_or, q_and, u12, l36, q_and, l12, q_full, q_4095, q_swy hx dl h, swF_lo (y := y) hx dl h]
    simp only [show c < 64 by omega, h, decide_true, Bool.true_and, Bool.and_true]
    have hcc : decide (c + 12 < 96) = true := by simp; omega
    rw [hcc, Bool.true_and]
    have e1 : (bt6 (swy x du) (12 + c) || (decide (36 ≤ c) && (bt6 (swy y du) (c - 36) && decide (c - 36 < 12)))) = swF du (hs x y) (c + 12) := by
      by_cases h1 : 36 ≤ c
      · rw [w_swy hx du (12 + c) (by omega), q_swy hy du (by omega), show c - 36 = c + 12 - 48 by omega, swF_hi (x := x) du (by omega)]
        rw [decide_eq_true h1]; simp; omega
      · rw [Nat.add_comm 12 c, q_swy hx du (by omega), swF_lo (y := y) hx du (by omega)]; simp [h1]
    have e2 : (decide (12 ≤ c) && bt6 (swy x dd) (c - 12)) = (decide (12 ≤ c) && swF dd (hs x y) (c - 12)) := by
      rw [q_swy hx dd (by omega), swF_lo (y := y) hx dd (by omega)]
    rw [Bool.or_assoc, Bool.or_assoc, ← Bool.or_assoc (bt6 (swy x du) (12 + c)), e1, e2]
  · have e0 : ∀ z w, hs z w c = bt6 w (c - 48) := fun z w => by unfold hs; rw [if_neg h]
    rw [e0, q_or, q_or, q_or, u12, u36, q_and, l12, q_full, q_swy hy dl (by omega), swF_hi (x := x) dl (by omega)]
    simp only [show c - 48 < 64 by omega, show c - 48 < 48 by omega, decide_true, Bool.true_and, Bool.and_true]
    have hcc : decide (12 ≤ c) = true := by simp; omega
    rw [hcc, Bool.true_and]
    have e1 : bt6 (swy y du) (12 + (c - 48)) = (decide (c + 12 < 96) && swF du (hs x y) (c + 12)) := by
      by_cases h1 : c + 12 < 96
      · rw [show 12 + (c - 48) = c + 12 - 48 by omega, q_swy hy du (by omega), swF_hi (x := x) du (by omega)]; simp [h1]
      · rw [w_swy hy du _ (by omega)]; simp [h1]
    have e2 : (bt6 (swy x dd) (36 + (c - 48)) || (decide (12 ≤ c - 48) && bt6 (swy y dd) (c - 48 - 12))) = swF dd (hs x y) (c - 12) := by
      by_cases h1 : 12 ≤ c - 48
      · rw [w_swy hx dd _ (by omega), show c - 48 - 12 = c - 12 - 48 by omega, q_swy hy dd (by omega), swF_hi (x := x) dd (by omega)]; simp [h1]
      · rw [show 36 + (c - 48) = c - 12 by omega, q_swy hx dd (by omega), swF_lo (y := y) hx dd (by omega)]; simp [h1]
    rw [Bool.or_assoc, Bool.or_assoc, e1, e2]
theorem spr_w {x y : Int64} (hx : w48 x) (hy : w48 y) (m : Int32) : w48 (sprLo x y m) ∧ w48 (sprHi x y m) := by
  unfold sprLo sprHi
  generalize (m >>> ((3 : Int32) &&& 31)) &&& 7 = dl
  generalize (m >>> ((6 : Int32) &&& 31)) &&& 7 = dd
  generalize m &&& 7 = du
  have u12 := fun (z : Int64) (i : Nat) => q_ushr (k := 12) (by omega) z i
  have u36 := fun (z : Int64) (i : Nat) => q_ushr (k := 36) (by omega) z i
  have l36 := fun (z : Int64) (i : Nat) => q_shl (k := 36) (by omega) z i
  change ∀ (z : Int64) (i : Nat), bt6 ((z.toUInt64 >>> ((12 : Int32).toInt64.toUInt64 &&& Int64.toUInt64 63)).toInt64) i = bt6 z (12 + i) at u12
  change ∀ (z : Int64) (i : Nat), bt6 ((z.toUInt64 >>> ((36 : Int32).toInt64.toUInt64 &&& Int64.toUInt64 63)).toInt64) i = bt6 z (36 + i) at u36
  change ∀ (z : Int64) (i : Nat), bt6 (z <<< ((36 : Int32).toInt64 &&& 63)) i = (decide (i < 64) && (decide (36 ≤ i) && bt6 z (i - 36))) at l36
  constructor
  · intro i hi
    rw [q_or, q_or, q_or, q_and, u12, l36, q_and, q_full, q_4095, w_swy hx dl i hi, w_swy hx du (12 + i) (by omega)]
    simp; omega
  · intro i hi
    rw [q_or, q_or, q_or, u12, u36, q_and, q_full, w_swy hy dl i hi, w_swy hy du (12 + i) (by omega), w_swy hx dd (36 + i) (by omega)]
    simp; omega
/-- one step back by moves -/
def stF (m : Int32) (f : Nat → Bool) (x : Nat) : Bool := (List.range 9).any fun b => mvOn m b && (mvOK x (8 - b) && f (mvT x (8 - b)))
theorem from_st {m : Int32} {f : Nat → Bool} {x : Nat} (hx : x < 96) : fromN m f 96 x = stF m f x := by
  unfold fromN stF goesN
  rw [Bool.eq_iff_iff]
  simp only [List.any_eq_true, List.mem_range, Bool.and_eq_true, decide_eq_true_eq]
  constructor
  · rintro ⟨y, hy, hf, b, hb, ⟨h1, h2⟩, h3⟩
    unfold mvOK at h2
    rw [decide_eq_true_eq] at h2
    unfold mvT at h3
    have b3 : b % 3 < 3 := by omega
    have e1 : (8 - b) % 3 = 2 - b % 3 := by omega
    have e2 : (8 - b) / 3 = 2 - b / 3 := by omega
    have e3 : mvT x (8 - b) = y := by unfold mvT; rw [e1, e2]; omega
    refine ⟨b, hb, h1, ?_, by rw [e3]; exact hf⟩
    unfold mvOK
    rw [decide_eq_true_eq, e1, e2]
    omega
  · rintro ⟨b, hb, h1, h2, hf⟩
    unfold mvOK at h2
    rw [decide_eq_true_eq] at h2
    have e1 : (8 - b) % 3 = 2 - b % 3 := by omega
    have e2 : (8 - b) / 3 = 2 - b / 3 := by omega
    rw [e1, e2] at h2
    have e3 : mvT x (8 - b) = 12 * (x / 12 + (2 - b / 3) - 1) + (x % 12 + (2 - b % 3) - 1) := by unfold mvT; rw [e1, e2]
    refine ⟨mvT x (8 - b), by omega, hf, b, hb, ⟨h1, ?_⟩, ?_⟩
    · unfold mvOK; rw [decide_eq_true_eq, e3]; omega
    · unfold mvT at e3 ⊢; omega
theorem mv_bits : ∀ M, M < 512 → (decide (¬ (nI M &&& 7) &&& 1 = 0) = mvOn (nI M) 0 ∧ decide (¬ (nI M &&& 7) &&& 2 = 0) = mvOn (nI M) 1 ∧ decide (¬ (nI M &&& 7) &&& 4 = 0) = mvOn (nI M) 2) ∧ (decide (¬ ((nI M >>> ((3 : Int32) &&& 31)) &&& 7) &&& 1 = 0) = mvOn (nI M) 3 ∧ decide (¬ ((nI M >>> ((3 : Int32) &&& 31)) &&& 7) &&& 2 = 0) = mvOn (nI M) 4 ∧ decide (¬ ((nI M >>> ((3 : Int32) &&& 31)) &&& 7) &&& 4 = 0) = mvOn (nI M) 5) ∧ (decide (¬ ((nI M >>> ((6 : Int32) &&& 31)) &&& 7) &&& 1 = 0) = mvOn (nI M) 6 ∧ decide (¬ ((nI M >>> ((6 : Int32) &&& 31)) &&& 7) &&& 2 = 0) = mvOn (nI M) 7 ∧ decide (¬ ((nI M >>> ((6 : Int32) &&& 31)) &&& 7) &&& 4 = 0) = mvOn (nI M) 8) := by decide +kernel
theorem mv_pl : ∀ c, c < 96 →
    (mvOK c 8 = (decide (c + 12 < 96) && decide (¬ (c + 12 + 1) % 12 = 0)) ∧ (mvOK c 8 = true → mvT c 8 = c + 12 + 1)) ∧
    (mvOK c 7 = decide (c + 12 < 96) ∧ (mvOK c 7 = true → mvT c 7 = c + 12)) ∧
    (mvOK c 6 = (decide (c + 12 < 96) && decide (¬ (c + 12) % 12 = 0)) ∧ (mvOK c 6 = true → mvT c 6 = c + 12 - 1)) ∧
    (mvOK c 5 = decide (¬ (c + 1) % 12 = 0) ∧ (mvOK c 5 = true → mvT c 5 = c + 1)) ∧
    (mvOK c 4 = true ∧ mvT c 4 = c) ∧
    (mvOK c 3 = decide (¬ c % 12 = 0) ∧ (mvOK c 3 = true → mvT c 3 = c - 1)) ∧
    (mvOK c 2 = (decide (12 ≤ c) && decide (¬ (c - 12 + 1) % 12 = 0)) ∧ (mvOK c 2 = true → mvT c 2 = c - 12 + 1)) ∧
    (mvOK c 1 = decide (12 ≤ c) ∧ (mvOK c 1 = true → mvT c 1 = c - 12)) ∧
    (mvOK c 0 = (decide (12 ≤ c) && decide (¬ (c - 12) % 12 = 0)) ∧ (mvOK c 0 = true → mvT c 0 = c - 12 - 1)) := by decide +kernel
theorem and_cg {a : Bool} {f : Nat → Bool} {i j : Nat} (h : a = true → i = j) : (a && f i) = (a && f j) := by
  cases a with
  | false => rfl
  | true => rw [h rfl]
theorem sprF_st {M : Nat} (hM : M < 512) {f : Nat → Bool} {c : Nat} (hc : c < 96) : sprF (nI M) f c = stF (nI M) f c := by
  obtain ⟨⟨a0, a1, a2⟩, ⟨a3, a4, a5⟩, a6, a7, a8⟩ := mv_bits M hM
  obtain ⟨⟨p8, t8⟩, ⟨p7, t7⟩, ⟨p6, t6⟩, ⟨p5, t5⟩, ⟨p4, t4⟩, ⟨p3, t3⟩, ⟨p2, t2⟩, ⟨p1, t1⟩, p0, t0⟩ := mv_pl c hc
  have e8 := and_cg (f := f) t8
  have e7 := and_cg (f := f) t7
  have e6 := and_cg (f := f) t6
  have e5 := and_cg (f := f) t5
  have e3 := and_cg (f := f) t3
  have e2 := and_cg (f := f) t2
  have e1 := and_cg (f := f) t1
  have e0 := and_cg (f := f) t0
  rw [p8] at e8; rw [p7] at e7; rw [p6] at e6; rw [p5] at e5; rw [p3] at e3; rw [p2] at e2; rw [p1] at e1; rw [p0] at e0
  unfold sprF swF stF
  rw [a0, a1, a2, a3, a4, a5, a6, a7, a8]
  show _ = List.any [0, 1, 2, 3, 4, 5, 6, 7, 8] _
  simp only [List.any_cons, List.any_nil, Bool.or_false, show 8 - 0 = 8 from rfl, show 8 - 1 = 7 from rfl, show 8 - 2 = 6 from rfl, show 8 - 3 = 5 from rfl, show 8 - 4 = 4 from rfl, show 8 - 5 = 3 from rfl, show 8 - 6 = 2 from rfl, show 8 - 7 = 1 from rfl, show 8 - 8 = 0 from rfl]
  rw [p8, p7, p6, p5, p4, p3, p2, p1, p0, e8, e7, e6, e5, e3, e2, e1, e0, t4]
  simp only [Bool.true_and, Bool.and_or_distrib_left, Bool.and_assoc]
  simp only [Bool.or_assoc, Bool.or_comm, Bool.or_left_comm, Bool.and_comm, Bool.and_left_comm, Bool.and_assoc]
theorem spr_q {x y : Int64} (hx : w48 x) (hy : w48 y) {M : Nat} (hM : M < 512) {c : Nat} (hc : c < 96) : hs (sprLo x y (nI M)) (sprHi x y (nI M)) c = fromN (nI M) (hs x y) 96 c := by
  rw [spr_F hx hy _ hc, sprF_st hM hc, from_st hc]
