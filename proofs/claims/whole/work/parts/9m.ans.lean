/-! ===== the answers are the reference's ===== -/
theorem t_9 {t a : Nat} (ht : t < 720) (ha : a < 720) : decide (¬ nI a < nI t - 9) = decide (t - 9 ≤ a) := by
  by_cases h : 9 ≤ t
  · have e : nI t - 9 = nI (t - 9) := by
      have q : nI (t - 9) + nI 9 = nI t := by rw [nI_ad]; congr 1; omega
      rw [← q]; exact Int32.add_sub_cancel _ _
    rw [e]
    by_cases q : t - 9 ≤ a
    · rw [decide_eq_true q, decide_eq_true (nI_nlt q (by omega))]
    · rw [decide_eq_false q, decide_eq_false (fun z => z (nI_lt (by omega) (by omega)))]
  · have hn : ∀ t, t < 9 → nI t - 9 ≤ 0 := by decide
    have := hn t (by omega)
    rw [decide_eq_true (show t - 9 ≤ a by omega), decide_eq_true (Int32.not_lt.mpr (Int32.le_trans this (nI_pos' (by omega))))]
theorem rg_tk {I M : AI} {t k i : Nat} (ht : t < 720) (h5 : M 100 5 = nI t) (e10 : M 110 = I 110) (e12 : M 112 = I 112) (e13 : M 113 = I 113) (e1 : M 101 = I 101) (r10 : rg 4 (I 110 i)) (r12 : rg 720 (I 112 i)) : ∀ q, q < 3 → rgB I (nI q) (cyB I k) (t - 9) (t + 1 - (t - 9)) i = tkB M (nI k) q i := by
  intro q hq
  obtain ⟨a, ha, ea⟩ := r12
  obtain ⟨s, hs, es⟩ := r10
  unfold rgB tkB tkC tkK cyB
  rw [e10, e12, e13, e1, h5, ea, es, t_9 ht ha, nv_nI (by omega)]
  have e2 : decide (nI a ≤ nI t) = decide (a ≤ t) := by
    by_cases z : a ≤ t
    · rw [decide_eq_true z, decide_eq_true (nI_le z (by omega))]
    · rw [decide_eq_false z, decide_eq_false (nI_ge (by omega) (by omega))]
  have e3 : decide (t - 9 ≤ a ∧ a < t - 9 + (t + 1 - (t - 9))) = (decide (t - 9 ≤ a) && decide (a ≤ t)) := by
    rw [← Bool.decide_and]; congr 1; apply propext; constructor <;> (intro z; omega)
  rw [e2, e3]
  generalize decide (t - 9 ≤ a) = A
  generalize decide (a ≤ t) = B
  generalize decide (I 101 (nv (I 113 i)) = nI k) = C
  rcases (by omega : s = 0 ∨ s = 1 ∨ s = 2 ∨ s = 3) with rfl | rfl | rfl | rfl <;> rcases (by omega : q = 0 ∨ q = 1 ∨ q = 2) with rfl | rfl | rfl <;> cases A <;> cases B <;> cases C <;> rfl
theorem one_sh : ∀ k, k < 8 → (1 : Int32) <<< (nI k &&& 31) = nI (2 ^ k) ∧ 2 ^ k < 256 := by decide
theorem two_tb : ∀ k, k < 8 → ∀ y, y < 8 → (2 ^ k).testBit y = decide (y = k) := by decide
theorem pM_g {I : AI} {p q : Nat → Bool} : ∀ n, (∀ x, x < n → p x = q x) → pM I p n = pM I q n
  | 0, _ => rfl
  | n + 1, h => by unfold pM; rw [h n (by omega), pM_g n (fun x hx => h x (by omega))]
theorem ppl_one {I : AI} (hL : MLand I) {k : Nat} (hk : k < 8) : pplN I ((1 : Int32) <<< (nI k &&& 31)) 96 = nI (cwM I k 96) := by
  rw [(one_sh k hk).1, ppl_M hL (one_sh k hk).2 96 (Nat.le_refl _)]
  congr 1
  unfold cwM
  refine pM_g 96 fun x hx => ?_
  obtain ⟨y, hy, ey⟩ := (hL x hx).1
  rw [ey, nv_nI (by omega), two_tb k hk y hy]
theorem pplN_k {I M : AI} (h1 : M 101 = I 101) (h2 : M 102 = I 102) (z : Int32) : ∀ n, pplN M z n = pplN I z n
  | 0 => rfl
  | n + 1 => by unfold pplN; rw [pplN_k h1 h2 z n, h1, h2]
theorem ans_eq {I M : AI} {F : Nat → Nat → Bool} {t k : Nat} (hk : k < 8) (ht : t < 720) (hT : MTel I) (hL : MLand I) (hC : OCr I) (hm : ∀ a, 101 ≤ a → a ≤ 115 → M a = I a) (h6 : M 100 6 = I 100 6) (h13 : M 100 13 = I 100 13) (h5 : M 100 5 = nI t) (hF : F t = mayK I (nv (I 100 13)) t) : ∀ q, q < 9 → aN I M t k q = ansV M F (nI k) q := by
  have hrec : ∀ q, q < 3 → nI (sC I (nI q) (cyB I k) (nv (I 100 13)) (t + 1 - (t - 9)) (t - 9)) = nI (cnt (tkB M (nI k) q) (nv (M 100 13))) := fun q hq => by
    rw [sC_eq (fun i hi => (hT.2 i hi).2.2.1) _ _ (by omega), h13]
    congr 1
    exact cnt_cg fun i hi => rg_tk ht h5 (hm 110 (by omega) (by omega)) (hm 112 (by omega) (by omega)) (hm 113 (by omega) (by omega)) (hm 101 (by omega) (by omega)) (hT.2 i hi).1 (hT.2 i hi).2.2.1 q hq
  have hf : F (nv (M 100 5)) = mayK I (nv (I 100 13)) t := by rw [h5, nv_nI (by omega)]; exact hF
  have hk2 : nv (nI k) = k := nv_nI (by omega)
  intro q hq
  rcases (show q = 0 ∨ q = 1 ∨ q = 2 ∨ q = 3 ∨ q = 4 ∨ q = 5 ∨ q = 6 ∨ q = 7 ∨ q = 8 by omega) with rfl | rfl | rfl | rfl | rfl | rfl | rfl | rfl | rfl
  · exact hrec 0 (by decide)
  · exact hrec 1 (by decide)
  · exact hrec 2 (by decide)
  · unfold ansV nrN; rw [if_pos rfl, hf, hk2, cyB_e (hm 101 (by omega) (by omega))]; rfl
  · unfold ansV; rw [if_neg (by decide), if_pos rfl, hf, hk2, sooN_e (hm 101 (by omega) (by omega)) h6]; rfl
  · show I 6 k = pplN M ((1 : Int32) <<< (nI k &&& 31)) 96
    rw [pplN_k (hm 101 (by omega) (by omega)) (hm 102 (by omega) (by omega)), ppl_one hL hk, hC k hk]
  · rfl
  · show M 133 k = M 133 (nv (nI k)); rw [hk2]
  · show nI t / 60 = M 100 5 / 60; rw [h5]
