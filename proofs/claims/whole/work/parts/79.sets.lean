/-! ===== a cell that holds a set of cells; what is left unchanged ===== -/
def cs (J : AJ) (a : Nat) (f : Nat → Bool) : Prop := w48 (J a 0) ∧ w48 (J a 1) ∧ ∀ x, x < 96 → hs (J a 0) (J a 1) x = f x
theorem cs_ld {J : AJ} {a : Nat} {x y : Int64} {f : Nat → Bool} (hx : w48 x) (hy : w48 y) (h : ∀ c, c < 96 → hs x y c = f c) : cs (ldJ J a x y) a f := by
  unfold cs; rw [ldJ_0, ldJ_1]; exact ⟨hx, hy, h⟩
theorem cs_k {J J' : AJ} {a : Nat} {f : Nat → Bool} (h : J' a = J a) (hc : cs J a f) : cs J' a f := by
  unfold cs; rw [h]; exact hc
theorem cs_ne {J : AJ} {a b : Nat} {x y : Int64} {f : Nat → Bool} (h : b ≠ a) (hc : cs J b f) : cs (ldJ J a x y) b f := cs_k (ldJ_ne h) hc
theorem cs_f {J : AJ} {a : Nat} {f g : Nat → Bool} (h : ∀ x, x < 96 → f x = g x) (hc : cs J a f) : cs J a g := ⟨hc.1, hc.2.1, fun x hx => (hc.2.2 x hx).trans (h x hx)⟩
theorem cs_has {J : AJ} {a : Nat} {f : Nat → Bool} (hc : cs J a f) {c : Nat} (h : c < 96) : hasC (J a 0) (J a 1) (nI c) = f c := (hasC_q h).trans (hc.2.2 c h)
theorem cs_fill {J : AJ} {a : Nat} : cs (ldJ J a 281474976710655 281474976710655) a (fun _ => true) := cs_ld w_full w_full (fun _ h => hs_full h)
theorem cs_clear {J : AJ} {a : Nat} : cs (ldJ J a 0 0) a (fun _ => false) := cs_ld w_0 w_0 (fun c _ => hs_0 c)
theorem cs_copy {J : AJ} {a b : Nat} {g : Nat → Bool} (hb : cs J b g) : cs (ldJ J a (J b 0) (J b 1)) a g := cs_ld hb.1 hb.2.1 hb.2.2
theorem cs_keep {J : AJ} {a b : Nat} {f g : Nat → Bool} (ha : cs J a f) (hb : cs J b g) : cs (ldJ J a (J a 0 &&& J b 0) (J a 1 &&& J b 1)) a (fun x => f x && g x) :=
  cs_ld (w_and ha.1) (w_and ha.2.1) (fun c hc => by rw [hs_and, ha.2.2 c hc, hb.2.2 c hc])
theorem cs_drop {J : AJ} {a b : Nat} {f g : Nat → Bool} (ha : cs J a f) (hb : cs J b g) : cs (ldJ J a (J a 0 &&& (J b 0 ^^^ -1)) (J a 1 &&& (J b 1 ^^^ -1))) a (fun x => f x && !g x) :=
  cs_ld (w_and ha.1) (w_and ha.2.1) (fun c hc => by rw [hs_drop _ _ _ _ hc, ha.2.2 c hc, hb.2.2 c hc])
theorem cs_join {J : AJ} {a b : Nat} {f g : Nat → Bool} (ha : cs J a f) (hb : cs J b g) : cs (ldJ J a (J a 0 ||| J b 0) (J a 1 ||| J b 1)) a (fun x => f x || g x) :=
  cs_ld (w_or ha.1 hb.1) (w_or ha.2.1 hb.2.1) (fun c hc => by rw [hs_or, ha.2.2 c hc, hb.2.2 c hc])
theorem cs_set {J : AJ} {a : Nat} {f : Nat → Bool} (ha : cs J a f) {k : Nat} (hk : k < 96) (z : Bool) : cs (ldJ J a (setLo (J a 0) (nI k) z) (setHi (J a 1) (nI k) z)) a (fun x => if x = k then z else f x) :=
  cs_ld (w_set hk z ha.1 ha.2.1).1 (w_set hk z ha.1 ha.2.1).2 (fun c hc => by rw [hs_set hk z hc, ha.2.2 c hc])
theorem cs_circ {J : AJ} {a c f : Nat} (hc : c < 96) (hf : f < 12) : cs (ldJ J a (circ c f).1 (circ c f).2) a (fun x => decide (farN x c ≤ f)) :=
  cs_ld (circ_w hc hf).1 (circ_w hc hf).2 (fun x hx => circ_q hc hf hx)
theorem from_cg {m : Int32} {f g : Nat → Bool} (h : ∀ y, y < 96 → f y = g y) (x : Nat) : fromN m f 96 x = fromN m g 96 x := by
  unfold fromN
  rw [Bool.eq_iff_iff]
  simp only [List.any_eq_true, List.mem_range]
  constructor
  · rintro ⟨y, hy, q⟩; exact ⟨y, hy, by rw [← h y hy]; exact q⟩
  · rintro ⟨y, hy, q⟩; exact ⟨y, hy, by rw [h y hy]; exact q⟩
theorem cs_spr {J : AJ} {a : Nat} {f : Nat → Bool} (ha : cs J a f) {M : Nat} (hM : M < 512) : cs (ldJ J a (sprLo (J a 0) (J a 1) (nI M)) (sprHi (J a 0) (J a 1) (nI M))) a (fun x => fromN (nI M) f 96 x) :=
  cs_ld (spr_w ha.1 ha.2.1 _).1 (spr_w ha.1 ha.2.1 _).2 (fun c hc => by rw [spr_q ha.1 ha.2.1 hM hc, from_cg ha.2.2 c])
theorem cs_size {J : AJ} {a : Nat} {f : Nat → Bool} (ha : cs J a f) : bc64 (J a 0) + bc64 (J a 1) = nI (cnt f 96) := by
  rw [size_q ha.1 ha.2.1, cnt_cg ha.2.2]
theorem cs_with {J : AJ} {a b : Nat} {f g : Nat → Bool} (ha : cs J a f) (hb : cs J b g) : bc64 (J a 0 &&& J b 0) + bc64 (J a 1 &&& J b 1) = nI (cnt (fun x => f x && g x) 96) := by
  rw [size_q (w_and ha.1) (w_and ha.2.1), cnt_cg (fun x hx => by rw [hs_and, ha.2.2 x hx, hb.2.2 x hx])]
def kJ (P : List Nat) (J J' : AJ) : Prop := ∀ a, ¬ a ∈ P → J' a = J a
def kI (P : List Nat) (I I' : AI) : Prop := ∀ a, ¬ a ∈ P → I' a = I a
theorem kJ_r {P : List Nat} {J : AJ} : kJ P J J := fun _ _ => rfl
theorem kI_r {P : List Nat} {I : AI} : kI P I I := fun _ _ => rfl
theorem kJ_t {P : List Nat} {J J1 J2 : AJ} (h : kJ P J J1) (h2 : kJ P J1 J2) : kJ P J J2 := fun a q => (h2 a q).trans (h a q)
theorem kI_t {P : List Nat} {I I1 I2 : AI} (h : kI P I I1) (h2 : kI P I1 I2) : kI P I I2 := fun a q => (h2 a q).trans (h a q)
theorem kJ_m {P Q : List Nat} {J J' : AJ} (hs : ∀ x, x ∈ P → x ∈ Q) (h : kJ P J J') : kJ Q J J' := fun a q => h a (fun z => q (hs a z))
theorem kI_m {P Q : List Nat} {I I' : AI} (hs : ∀ x, x ∈ P → x ∈ Q) (h : kI P I I') : kI Q I I' := fun a q => h a (fun z => q (hs a z))
theorem kJ_ld {P : List Nat} {J : AJ} {a : Nat} {x y : Int64} (h : a ∈ P) : kJ P J (ldJ J a x y) := fun b q => ldJ_ne (fun e => q (e ▸ h))
theorem kJ_up {P : List Nat} {J : AJ} {a k : Nat} {x : Int64} (h : a ∈ P) : kJ P J (upJ J a k x) := fun b q => by
  funext z; unfold upJ; rw [if_neg (fun e : b = a => q (by rw [e]; exact h))]
theorem kI_up {P : List Nat} {I : AI} {a k : Nat} {x : Int32} (h : a ∈ P) : kI P I (upI I a k x) := fun b q => by
  funext z; unfold upI; rw [if_neg (fun e : b = a => q (by rw [e]; exact h))]
section
variable {γ : GE} {m : MI} {d mc ms : Nat} {Post : PT} {pc : Nat} {L : List (Option Value)} {rest : List Value} {S : List Sh} {I : AI} {J : AJ} {k u : Nat} {v0 : Int32} {t n : Nat}
theorem r_aald (hm : OKm m) {a nn b : Nat} {C : String} {rs : List (Option Nat)} {x : Int32} (hl : lk (mT m) pc = some (.aaload, n, v0, t)) (ha : S[a]? = some (.inl (.object C, nn, rs))) (hin : vp_in x nn) (hC : C = RX0 ∨ C = RX4) (hb : rs.getD x.toNatClampNeg none = some b) (K : Rj γ m d mc ms Post (pc + n, L, .ref b :: rest, S, I, J, k, u)) : Rj γ m d mc ms Post (pc, L, .int x :: .ref a :: rest, S, I, J, k, u) := by
  exact stp_ok hm (cs := [vp_in x nn, C = RX0 ∨ C = RX4]) (by simp only [stp, hl, sti, ha, hb, rref]) ⟨hin, hC, trivial⟩ K
end
