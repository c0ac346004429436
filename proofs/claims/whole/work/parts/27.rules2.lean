/-! ===== rules where the shapes are not a literal; Math.max, Math.min; what is made ===== -/
section RULES2
variable {γ : GE} {m : MI} {d mc ms : Nat} {Post : PT} {pc : Nat} {L : List (Option Value)} {st rest : List Value} {S : List Sh} {I : AI} {J : AJ} {k u : Nat} {v0 : Int32} {t n : Nat}
theorem r_getf (hm : OKm m) {z ci f a ty : Nat} {fi : Bool} {ks : List Kd} {kd : Kd} (hl : lk (mT m) pc = some (.getfield z, n, v0, t)) (hf : lk m.1.2.1 z = some (ci, f, fi, ty)) (ha : S[a]? = some (.inr (ci, ks))) (hk : ks[f]? = some kd) {v : Value} (hv : kval I J a f kd = v) (K : Rj γ m d mc ms Post (pc + n, L, v :: rest, S, I, J, k, u)) : Rj γ m d mc ms Post (pc, L, .ref a :: rest, S, I, J, k, u) := by
  subst hv
  refine stp_ok hm (cs := []) ?_ trivial K
  simp only [stp, hl, sti, hf, ha, hk]
  rw [show Nat.beq ci ci = true from Nat.beq_refl ci]
theorem r_putI (hm : OKm m) {z ci f a : Nat} {ks : List Kd} {x : Int32} (hl : lk (mT m) pc = some (.putfield z, n, v0, t)) (hf : lk m.1.2.1 z = some (ci, f, false, 0)) (ha : S[a]? = some (.inr (ci, ks))) (hk : ks[f]? = some (.inl 0)) (K : Rj γ m d mc ms Post (pc + n, L, rest, S, upI I a f x, J, k, u)) : Rj γ m d mc ms Post (pc, L, .int x :: .ref a :: rest, S, I, J, k, u) := by
  refine stp_ok hm (cs := []) ?_ trivial K
  simp only [stp, hl, sti, hf, ha, hk]
  rw [show (Nat.beq ci ci && (!false || mQ m)) = true by rw [show Nat.beq ci ci = true from Nat.beq_refl ci]; rfl]
  rfl
theorem r_putZ (hm : OKm m) {z ci f a : Nat} {ks : List Kd} {x : Int32} (hl : lk (mT m) pc = some (.putfield z, n, v0, t)) (hf : lk m.1.2.1 z = some (ci, f, false, 1)) (ha : S[a]? = some (.inr (ci, ks))) (hk : ks[f]? = some (.inl 0)) (hz : bz x) (K : Rj γ m d mc ms Post (pc + n, L, rest, S, upI I a f x, J, k, u)) : Rj γ m d mc ms Post (pc, L, .int x :: .ref a :: rest, S, I, J, k, u) := by
  refine stp_ok hm (cs := [bz x]) ?_ ⟨hz, trivial⟩ K
  simp only [stp, hl, sti, hf, ha, hk]
  rw [show (Nat.beq ci ci && (!false || mQ m)) = true by rw [show Nat.beq ci ci = true from Nat.beq_refl ci]; rfl]
  rfl
theorem r_putJ (hm : OKm m) {z ci f a : Nat} {ks : List Kd} {x : Int64} (hl : lk (mT m) pc = some (.putfield z, n, v0, t)) (hf : lk m.1.2.1 z = some (ci, f, false, 2)) (ha : S[a]? = some (.inr (ci, ks))) (hk : ks[f]? = some (.inl 1)) (K : Rj γ m d mc ms Post (pc + n, L, rest, S, I, upJ J a f x, k, u)) : Rj γ m d mc ms Post (pc, L, .long x :: .ref a :: rest, S, I, J, k, u) := by
  refine stp_ok hm (cs := []) ?_ trivial K
  simp only [stp, hl, sti, hf, ha, hk]
  rw [show (Nat.beq ci ci && (!false || mQ m)) = true by rw [show Nat.beq ci ci = true from Nat.beq_refl ci]; rfl]
  rfl
theorem r_iald (hm : OKm m) {a nn : Nat} {rs : List (Option Nat)} {x : Int32} (hl : lk (mT m) pc = some (.iaload, n, v0, t)) (ha : S[a]? = some (.inl (.int, nn, rs))) (hin : vp_in x nn) {v : Value} (hv : .int (I a x.toNatClampNeg) = v) (K : Rj γ m d mc ms Post (pc + n, L, v :: rest, S, I, J, k, u)) : Rj γ m d mc ms Post (pc, L, .int x :: .ref a :: rest, S, I, J, k, u) := by
  subst hv
  exact stp_ok hm (cs := [vp_in x nn]) (by simp only [stp, hl, sti, ha]) ⟨hin, trivial⟩ K
theorem r_zald (hm : OKm m) {a nn : Nat} {rs : List (Option Nat)} {x : Int32} (hl : lk (mT m) pc = some (.baload, n, v0, t)) (ha : S[a]? = some (.inl (.boolean, nn, rs))) (hin : vp_in x nn) {v : Value} (hv : .int (I a x.toNatClampNeg) = v) (K : Rj γ m d mc ms Post (pc + n, L, v :: rest, S, I, J, k, u)) : Rj γ m d mc ms Post (pc, L, .int x :: .ref a :: rest, S, I, J, k, u) := by
  subst hv
  exact stp_ok hm (cs := [vp_in x nn]) (by simp only [stp, hl, sti, ha]) ⟨hin, trivial⟩ K
theorem r_lald (hm : OKm m) {a nn : Nat} {rs : List (Option Nat)} {x : Int32} (hl : lk (mT m) pc = some (.laload, n, v0, t)) (ha : S[a]? = some (.inl (.long, nn, rs))) (hin : vp_in x nn) {v : Value} (hv : .long (J a x.toNatClampNeg) = v) (K : Rj γ m d mc ms Post (pc + n, L, v :: rest, S, I, J, k, u)) : Rj γ m d mc ms Post (pc, L, .int x :: .ref a :: rest, S, I, J, k, u) := by
  subst hv
  exact stp_ok hm (cs := [vp_in x nn]) (by simp only [stp, hl, sti, ha]) ⟨hin, trivial⟩ K
theorem r_iast (hm : OKm m) {a nn : Nat} {rs : List (Option Nat)} {x : Int32} {y : Int32} (hl : lk (mT m) pc = some (.iastore, n, v0, t)) (ha : S[a]? = some (.inl (.int, nn, rs))) (hin : vp_in x nn) (K : Rj γ m d mc ms Post (pc + n, L, rest, S, upI I a x.toNatClampNeg y, J, k, u)) : Rj γ m d mc ms Post (pc, L, .int y :: .int x :: .ref a :: rest, S, I, J, k, u) :=
  stp_ok hm (cs := [vp_in x nn]) (by simp only [stp, hl, sti, ha]) ⟨hin, trivial⟩ K
theorem r_last (hm : OKm m) {a nn : Nat} {rs : List (Option Nat)} {x : Int32} {y : Int64} (hl : lk (mT m) pc = some (.lastore, n, v0, t)) (ha : S[a]? = some (.inl (.long, nn, rs))) (hin : vp_in x nn) (K : Rj γ m d mc ms Post (pc + n, L, rest, S, I, upJ J a x.toNatClampNeg y, k, u)) : Rj γ m d mc ms Post (pc, L, .long y :: .int x :: .ref a :: rest, S, I, J, k, u) :=
  stp_ok hm (cs := [vp_in x nn]) (by simp only [stp, hl, sti, ha]) ⟨hin, trivial⟩ K
theorem r_zast (hm : OKm m) {a nn : Nat} {rs : List (Option Nat)} {x y : Int32} (hl : lk (mT m) pc = some (.bastore, n, v0, t)) (ha : S[a]? = some (.inl (.boolean, nn, rs))) (hin : vp_in x nn) (hz : bz y) (K : Rj γ m d mc ms Post (pc + n, L, rest, S, upI I a x.toNatClampNeg y, J, k, u)) : Rj γ m d mc ms Post (pc, L, .int y :: .int x :: .ref a :: rest, S, I, J, k, u) :=
  stp_ok hm (cs := [vp_in x nn, bz y]) (by simp only [stp, hl, sti, ha]) ⟨hin, hz, trivial⟩ K
theorem r_alen (hm : OKm m) {a nn : Nat} {rs : List (Option Nat)} (hl : lk (mT m) pc = some (.arraylength, n, v0, t)) (ha : S[a]? = some (.inl (.int, nn, rs)) ∨ S[a]? = some (.inl (.long, nn, rs))) (K : Rj γ m d mc ms Post (pc + n, L, .int (nI nn) :: rest, S, I, J, k, u)) : Rj γ m d mc ms Post (pc, L, .ref a :: rest, S, I, J, k, u) := by
  rcases ha with ha | ha <;> exact stp_ok hm (cs := []) (by simp only [stp, hl, sti, ha]) trivial K
theorem mmax_ok : inT 3024 (Jvm.Cond.static Lib.Math.max.name) = true ∧ inT 3025 (Jvm.Cond.code Lib.Math.max.name Lib.Math.max.code 2 (some .int)) = true ∧ inT 1015 (Jvm.Cond.initialized "java/lang/Math") = true := by decide +kernel
theorem r_mmax (hm : OKm m) {x y : Int32} {idx : Nat} (hl : lk (mT m) pc = some (.invokestatic idx, n, v0, t)) (hok : lk (mG m) idx = some Lib.Math.max.name) (hk : k ≤ mc ∧ u ≤ ms) (hrs : (rest.map fun v => v.category).sum ≤ 8) (K : Rj γ m d mc ms Post (pc + 3, L, .int (if x < y then y else x) :: rest, S, I, J, k, u)) : Rj γ m d mc ms Post (pc, L, .int y :: .int x :: rest, S, I, J, k, u) := by
  obtain ⟨hdg, hn0⟩ := hm.ins hl
  have hlen := len_of (k := 2) hn0 rfl
  subst hlen
  have o1 : Jvm.Cond.methodLink (mO m) idx Lib.Math.max.name ∈ gw_tbl := by
    rcases cal_of (hm.1.2.2.2.2.2 _ (lk_mem hok)) with h | ⟨q, hq, q1, q2, q3⟩
    · exact h
    · exfalso
      have h1 := nest_init q hq
      rw [q3] at h1
      exact absurd h1 (by decide)
  intro p e s mid args below meth c hCx H locs ls hL hSim hS
  obtain ⟨hx, hb, hml, hown, hts, hrr, hlk, hnm, hKn, hE, hBs⟩ := id hCx
  exact va_mmax hx hb (hml.trans hL.1.symm) hown (hts _ o1) (hts _ (inT_in mmax_ok.1)) (hts _ (inT_in mmax_ok.2.2)) (hts _ (inT_in mmax_ok.2.1)) (by show 1 ≤ d + 1; omega) (by rw [rv_sum]; show _ ≤ 64 * (d + 1); omega) hk.1 hk.2 hdg (K p e s mid args below meth c hCx H locs ls hL hSim hS)
theorem mmin_ok : inT 3027 (Jvm.Cond.static Lib.Math.min.name) = true ∧ inT 3028 (Jvm.Cond.code Lib.Math.min.name Lib.Math.min.code 2 (some .int)) = true ∧ inT 1015 (Jvm.Cond.initialized "java/lang/Math") = true := by decide +kernel
theorem r_mmin (hm : OKm m) {x y : Int32} {idx : Nat} (hl : lk (mT m) pc = some (.invokestatic idx, n, v0, t)) (hok : lk (mG m) idx = some Lib.Math.min.name) (hk : k ≤ mc ∧ u ≤ ms) (hrs : (rest.map fun v => v.category).sum ≤ 8) (K : Rj γ m d mc ms Post (pc + 3, L, .int (if y < x then y else x) :: rest, S, I, J, k, u)) : Rj γ m d mc ms Post (pc, L, .int y :: .int x :: rest, S, I, J, k, u) := by
  obtain ⟨hdg, hn0⟩ := hm.ins hl
  have hlen := len_of (k := 2) hn0 rfl
  subst hlen
  have o1 : Jvm.Cond.methodLink (mO m) idx Lib.Math.min.name ∈ gw_tbl := by
    rcases cal_of (hm.1.2.2.2.2.2 _ (lk_mem hok)) with h | ⟨q, hq, q1, q2, q3⟩
    · exact h
    · exfalso
      have h1 := nest_init q hq
      rw [q3] at h1
      exact absurd h1 (by decide)
  intro p e s mid args below meth c hCx H locs ls hL hSim hS
  obtain ⟨hx, hb, hml, hown, hts, hrr, hlk, hnm, hKn, hE, hBs⟩ := id hCx
  exact va_mmin hx hb (hml.trans hL.1.symm) hown (hts _ o1) (hts _ (inT_in mmin_ok.1)) (hts _ (inT_in mmin_ok.2.2)) (hts _ (inT_in mmin_ok.2.1)) (by show 1 ≤ d + 1; omega) (by rw [rv_sum]; show _ ≤ 64 * (d + 1); omega) hk.1 hk.2 hdg (K p e s mid args below meth c hCx H locs ls hL hSim hS)
theorem Sim.push {S : List Sh} {I I' : AI} {J J' : AJ} {H H' : Heap} {sh : Sh} (h : Sim γ S I J H) (hB : g_B γ ≤ H.size) (hI : ∀ a, a ≠ S.length → I' a = I a) (hJ : ∀ a, a ≠ S.length → J' a = J a)
    (hat : va_at (g_D γ) vwCl (g_ad γ S.length, cE γ (I' S.length) (J' S.length) sh) H') (hz : H'.size = H.size + 1) (ho : ∀ q, q < H.size → H'[q]? = H[q]?) : Sim γ (S ++ [sh]) I' J' H' := by
  have had : g_ad γ S.length = H.size := h.2.2 0
  have hk : ∀ (k : Nat) (x : Nat × va_E), (wld γ S I J)[k]? = some x → H'[x.1]? = H[x.1]? := fun k x hx => ho x.1 ((h.1 k x hx).lt)
  have hP := (h.1.kept hk).app (w2 := [(g_ad γ S.length, cE γ (I' S.length) (J' S.length) sh)]) (fun k x hx => by
    have hz : k < 1 := (List.getElem?_eq_some_iff.mp hx).1
    rw [show k = 0 by omega] at hx
    cases hx
    exact hat)
  have hD := h.2.1.push (e := cE γ (I' S.length) (J' S.length) sh) h.1 had (by rw [had]; exact hB)
  rw [wld_push hI hJ] at hP hD
  refine ⟨hP, hD, fun k => ?_⟩
  rw [List.length_append, hz]
  have := h.2.2 (1 + k)
  show g_ad γ (S.length + 1 + k) = H.size + 1 + k
  rw [Nat.add_assoc, this]; omega
end RULES2
