/-! ===== a new object: what holds at the start ===== -/
set_option maxRecDepth 100000
theorem nv_0 : nv (0 : Int32) = 0 := rfl
theorem rg0 {n : Nat} (h : 0 < n) : rg n (0 : Int32) := ⟨0, h, rfl⟩
theorem csz {J : AJ} {a : Nat} {f : Nat → Bool} (h0 : J a 0 = 0) (h1 : J a 1 = 0) (hf : ∀ x, x < 96 → f x = false) : cs J a f := ⟨by rw [h0]; exact w_0, by rw [h1]; exact w_0, fun x hx => by rw [h0, h1, hf x hx]; exact hs_0 x⟩
theorem st_103 : ∀ x, x < 96 → iK30 103 x = 10 := by decide +kernel
theorem st_119 : ∀ x, x < 84 → iK30 119 x = WD x := by decide +kernel
theorem st_133 : ∀ k, k < 8 → iK30 133 k = 100 := by decide +kernel
theorem st_4 {x : Nat} (hx : x < 96) : iK30 4 x = 10 := by
  show (if x < 96 then (10 : Int32) else 0) = 10; rw [if_pos hx]
theorem st_36 {x : Nat} (hx : x < 720) : iK30 36 x = -1 := by
  show (if x < 720 then (-1 : Int32) else 0) = -1; rw [if_pos hx]
theorem st_60 {x : Nat} (hx : x < 8) : iK30 60 x = -1 := by
  show (if x < 8 then (-1 : Int32) else 0) = -1; rw [if_pos hx]
theorem st_61 {x : Nat} (hx : x < 8) : iK30 61 x = 100 := by
  show (if x < 8 then (100 : Int32) else 0) = 100; rw [if_pos hx]
theorem st_64 {x : Nat} (hx : x < 720) : iK30 64 x = -1 := by
  show (if x < 720 then (-1 : Int32) else 0) = -1; rw [if_pos hx]
theorem st_cw (k m : Nat) : cwM iK30 k m = 0 := by
  induction m with
  | zero => unfold cwM; rw [pM]
  | succ m ih =>
    rw [cw_s, ih, show iK30 102 m = 0 from rfl, nv_0]
    split <;> rfl
theorem st_land : OLand iK30 jK1 := by
  refine ⟨fun x hx => ⟨rfl, rfl, by rw [st_4 hx, st_103 x hx]⟩, fun k hk => by rw [st_cw]; rfl, fun k hk => ?_, csz rfl rfl (fun x _ => rfl)⟩
  by_cases e : k = 0
  · subst e
    exact cs_f (fun x _ => rfl) (cs_fill (J := zJ) (a := 8))
  · refine cs_k (show jK1 (8 + k) = zJ (8 + k) from ldJ_ne (by omega)) (csz rfl rfl (fun x _ => decide_eq_false (fun z => e (nI_inj (a := 0) (b := k) (by decide) (by omega) z).symm)))
theorem st_rad : ORad iK30 jK1 := fun r hr => by
  rcases (by omega : r = 0 ∨ r = 1 ∨ r = 2) with rfl | rfl | rfl
  · exact ⟨rfl, rfl, csz rfl rfl (fun _ _ => rfl), csz rfl rfl (fun _ _ => rfl), fun h => absurd rfl h⟩
  · exact ⟨rfl, rfl, csz rfl rfl (fun _ _ => rfl), csz rfl rfl (fun _ _ => rfl), fun h => absurd rfl h⟩
  · exact ⟨rfl, rfl, csz rfl rfl (fun _ _ => rfl), csz rfl rfl (fun _ _ => rfl), fun h => absurd rfl h⟩
theorem st_n13 : nv (iK30 100 13) = 0 := rfl
theorem st_n45 : nv (iK30 100 45) = 0 := rfl
theorem st_tel : OTel iK30 := by
  refine ⟨rfl, fun i hi => ?_, fun t ht => by rw [st_36 ht, st_n13]; rfl, fun i hi => ?_⟩
  · rw [st_n13] at hi; omega
  · rw [st_n13] at hi; omega
theorem st_hea : OHea iK30 jK1 := ⟨rfl, rfl, 0, 0, Nat.zero_le _, by decide, rfl, rfl, fun s hs => absurd hs (by omega)⟩
theorem st_war : OWar iK30 jK1 := by
  refine ⟨rfl, fun w hw => ?_, fun k hk => ⟨by rw [st_61 hk, st_133 k hk], by rw [st_60 hk, st_n45]; rfl⟩⟩
  rw [st_n45] at hw; omega
theorem st_tru : OTru iK30 := fun t ht => by rw [st_64 ht]; rfl
theorem st_pos : OPos iK30 jK1 := ⟨by decide +kernel, fun p hp h => absurd rfl h⟩
theorem st_all : OAll iK30 jK1 false [] := ⟨st_land, st_rad, st_tel, st_hea, Or.inl rfl, st_war, st_tru, st_pos, ⟨by decide +kernel, fun i hi => rfl, by decide +kernel, by decide +kernel⟩, ⟨by decide +kernel, by decide +kernel⟩, ⟨by decide, rfl, fun k q h => by cases h⟩⟩
theorem st_mall : MAll iK30 [] := by
  refine ⟨rfl, fun x hx => ⟨rg0 (by decide), rg0 (by decide), by rw [st_103 x hx]; exact ⟨10, by decide, rfl⟩, Or.inl rfl⟩, ⟨fun r hr => ⟨Or.inl rfl, rg0 (by decide), rg0 (by decide), rg0 (by decide)⟩, fun x hx => Or.inl rfl⟩, ⟨rg0 (by decide), fun i hi => ?_⟩, rg0 (by decide), rg0 (by decide), ⟨⟨511, by decide, rfl⟩, by decide +kernel⟩, ⟨rg0 (by decide), rg0 (by decide), fun k hk => by rw [st_133 k hk]; exact ⟨100, by decide, rfl⟩, fun w hw => ?_⟩, ⟨fun w hw => ?_, fun w hw => ?_⟩, fun t ht => rg0 (by decide), fun p hp => ⟨Or.inl rfl, rg0 (by decide), rg0 (by decide)⟩, ⟨rg0 (by decide), fun i hi => rg0 (by decide)⟩, fun i hi => st_119 i hi, ⟨by decide, rfl, fun k q h => by cases h⟩, Or.inl rfl⟩
  · rw [st_n13] at hi; omega
  · rw [st_n45] at hw; omega
  · rw [st_n45] at hw; omega
  · rw [st_n45] at hw; omega
theorem st_inv : Inv iK30 jK1 false [] := ⟨st_all, st_mall, fun k hk => ⟨100, by decide, by decide, by rw [st_133 k hk]; rfl⟩⟩
