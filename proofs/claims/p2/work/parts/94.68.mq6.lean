/-! ===== undo, image, back ===== -/
section T2MQ6
variable {L : Nat} {xs : Nat → Int32} {f g F G : t2_F} {l l' : t2_L} {Q : Option fl_V → fl_M → Prop}
/-- undo -/
theorem t2_undo (Z : t2_Z (f, l)) : fl_Tq (pw_P L xs) 119 0 (fl_args (am_mxl (pw_P L xs) 119) [lx_x]) [] (f, l) (t2_Mid L xs 242 [at_this]) := by
  have W : t2_W f f l.2 := Z.2
  obtain ⟨I, ⟨⟨b1, b2, b3, b4, b5⟩, -⟩, -⟩ := id W
  have em : Int32.ofInt (-1) = (-1 : Int32) := by decide +kernel
  show fl_Tq (pw_P L xs) 119 0 [some (.inr (.inr (.inl (0, 0))))] [] (f, l) _
  refine x_undo_A (fun h1 => ?_) (fun h1 => ?_)
  · rw [b1] at h1
    refine ⟨Z.U, ⟨_, rfl⟩, ?_⟩
    exact r_undo_q (m := (f, l)) b3 b4 (fun _ => ⟨by rw [em], Z.2, Z.U⟩) (fun g s hn => absurd h1 hn)
  · rw [b1] at h1
    obtain ⟨j, j1, j2, j3⟩ := b5 ((f 280 0).toInt.toNat - 1) (by omega)
    have j2 : (f 272 (((f 271 1).toInt.toNat + ((f 280 0).toInt.toNat - 1)) % 20)).toInt = 285 + 90 * (j : Int) := j2
    obtain ⟨s1, s2, s3⟩ := j3.src (by omega)
    refine fl_Tq.cal rfl rfl (fl_bo rfl) rfl ?_
    refine hu_q (i := ((f 271 1).toInt.toNat + ((f 280 0).toInt.toNat - 1)) % 20) (j := j) Z.1.2.2 b2 (by rw [b1]; omega) (by rw [b1]; omega) j1 j2 s1 s2 s3 (fun g g2 g1 gfr g0 gsm g13 g16 => ?_)
    refine x_undo_B ?_
    have g280 : g 280 = f 280 := gfr 280 (by decide) (by decide)
    refine ⟨fun p hp i => by
      have hp : fl_N l.2 ≤ p := hp
      have h285 : 285 ≤ fl_N l.2 := by unfold fl_N; omega
      show g p i = _
      rw [gfr p (by omega) (by omega)]
      exact Z.U p hp i, ⟨_, rfl⟩, ?_⟩
    refine r_undo_q (m := (g, l)) (by show 0 ≤ (g 280 0).toInt ∧ (g 280 0).toInt ≤ 20; rw [g280]; exact b3) (by show 0 ≤ (g 280 1).toInt ∧ (g 280 1).toInt ≤ 19; rw [g280]; exact b4) (fun h => absurd (by have h : (g 280 0).toInt = 0 := h; rw [g280] at h; exact h) h1) (fun G s _ hs hs2 hp hj1 hj2 h0 => ?_)
    have hs2 : (s : Int) = ((g 280 1).toInt + ((g 280 0).toInt - 1)) % 20 := hs2
    have hp : ∀ p : Nat, p ≠ 280 → G p = g p := hp
    have hj1 : ∀ j : Nat, (j = 1 ∨ 1420 ≤ j) → G 280 j = g 280 j := hj1
    have hj2 : ∀ j : Nat, j < 1418 → G 280 (2 + j) = g 280 (1420 + 1418 * s + j) := hj2
    have h0 : (G 280 0).toInt = (g 280 0).toInt - 1 := h0
    rw [g280] at hs2 hj1 hj2 h0
    have es : s = ((f 280 1).toInt.toNat + ((f 280 0).toInt.toNat - 1)) % 20 := by omega
    have W1 := W.undo (gc := g) (gr := fun p => if p = 280 then G 280 else f p) (j := j) (s := s) hs2 (by omega) (by rw [es]; exact j3) g2 g1 gfr gsm g13 g16 (fun p hp => if_neg hp) (fun j hj => by rw [if_pos rfl]; exact hj1 j hj) (fun j hj => by rw [if_pos rfl]; exact hj2 j hj) (by rw [if_pos rfl]; exact h0)
    show some (Sum.inl (G 280 0)) = some (Sum.inl (g 271 2)) ∧ t2_W G G l.2 ∧ t2_U (G, l)
    refine ⟨?_, W1.ext (fun p hp' => hp p (by unfold fl_N at hp'; omega)) (fun w _ => by show G 280 w = (if 280 = 280 then G 280 else f 280) w; rw [if_pos rfl]) (fun w _ => by show G 281 w = (if 281 = 280 then G 280 else f 281) w; rw [if_neg (by decide), hp 281 (by decide), gfr 281 (by decide) (by decide)]) (by show G 277 7 = (if 277 = 280 then G 280 else f 277) 7; rw [if_neg (by decide), hp 277 (by decide), gfr 277 (by decide) (by decide)]), fun p hp' i => ?_⟩
    · have e : G 280 0 = g 271 2 := Int32.toInt.inj (by rw [h0, g2, b1])
      rw [e]
    · have hp' : fl_N l.2 ≤ p := hp'
      have h285 : 285 ≤ fl_N l.2 := by unfold fl_N; omega
      show G p i = _
      rw [hp p (by omega), gfr p (by omega) (by omega)]
      exact Z.U p hp' i
/-- what is copied to now, to the image: the rest stays -/
theorem t2_bsX {p q : Nat} (hX : at_XI (f, l)) (hn : 0 ≤ (f q 5).toInt ∧ (f q 5).toInt ≤ 16) (hp : p + 90 ≤ 271) : at_XI (bs_m f p q, l) :=
  at_XI.keep hX rfl (fun r w hr => by
    show bs_m f p q r w = f r w
    rw [bs_fr hn (by
      rcases hr with h | h | h | h | h | h | h | h
      · omega
      · omega
      · unfold fl_N at h; omega
      · omega
      · omega
      · omega
      · omega
      · omega)])
/-- image -/
theorem t2_image (Z : t2_Z (f, l)) : fl_Tq (pw_P L xs) 120 0 (fl_args (am_mxl (pw_P L xs) 120) [lx_x]) [] (f, l) (t2_Mid L xs 323 [at_this]) := by
  have W : t2_W f f l.2 := Z.2
  obtain ⟨I, ⟨H1, B1, H3⟩, D, p7⟩ := id W
  have hM : t2_M f l.2 := t2_Good.M Z.1
  show fl_Tq (pw_P L xs) 120 0 [some (.inr (.inr (.inl (0, 0))))] [] (f, l) _
  refine x_image_A ?_
  obtain ⟨s1, s2, s3⟩ := (t2_B.of_now I).src (by decide)
  refine fl_Tq.cal rfl rfl (fl_bo rfl) rfl ?_
  refine bs_24_0_q (p := 91) (q := 1) t2_blk_image t2_blk_now (by omega) s1 s2 s3 ?_
  refine x_image_B ?_
  refine fl_Tq.cal rfl rfl (fl_bo rfl) rfl ?_
  have S := bs_same (f := f) (p := 91) (q := 1) (by omega) s1
  have mf : ∀ r : Nat, (r < 91 ∨ 181 ≤ r) → bs_m f 91 1 r = f r := fun r hr => bs_fr s1 (by omega)
  have mX := t2_bsX (p := 91) Z.1.2.2 s1 (by decide)
  have B91 : t2_B (bs_m f 91 1) 91 (f 280) 0 := (t2_B.of_now I).same (by decide) S.1 (by rw [S.2.1]; exact t2_Good.k1 (j := 0) Z.1 (p := 103) (τ := 37) (by unfold fl_N; omega) (by decide +kernel) (by decide +kernel)) (by rw [S.2.2]; exact t2_Good.k1 (j := 0) Z.1 (p := 106) (τ := 40) (by unfold fl_N; omega) (by decide +kernel) (by decide +kernel))
  generalize bs_m f 91 1 = M at mf mX B91 ⊢
  refine hi_q (R := f 280) mX (fun j hj => by rw [mf _ (by omega), mf _ (by omega)]; exact hM j hj) (D.ext (fun q i hq _ => by rw [mf q (by omega)])) (H1.ext (mf _ (by decide)) (fun i _ => by rw [mf 272 (by decide)]) (fun i j _ _ _ o _ => mf _ (by omega)) rfl rfl (fun w _ _ => rfl) (Nat.le_refl _)) (fun g l' e1 e2 gX gH gD gfr gO => ?_)
  refine x_image_C ?_
  have g280 : g 280 = f 280 := by rw [gfr 280 (by decide) (by decide) (by decide), mf 280 (by decide)]
  have gn : ∀ p : Nat, p < 91 → g p = f p := fun p hp => by rw [gfr p (by omega) (by omega) (by omega), mf p (by omega)]
  refine ⟨gX.2.2.1, ⟨_, rfl⟩, ?_⟩
  refine r_image_q (m := (g, l')) (fun G hp h1 => ?_)
  have hp : ∀ p : Nat, p ≠ 281 → G p = g p := hp
  have h1 : ∀ j : Nat, j < 29780 → G 281 j = g 280 j := h1
  rw [g280] at h1
  have G280 : G 280 = f 280 := by rw [hp 280 (by decide)]; exact g280
  have Gn : ∀ p : Nat, p < 91 → G p = f p := fun p hp2 => by rw [hp p (by omega)]; exact gn p hp2
  show some (Sum.inl (G 280 7)) = some (Sum.inl (g 1 6)) ∧ t2_W G G l'.2 ∧ t2_U (G, l')
  refine ⟨?_, ⟨I.ext (fun p _ h => Gn p h) (fun w _ _ => by rw [G280]), ⟨H1.ext ?_ (fun i _ => ?_) (fun i j hi hj hv o ho => ?_) (by rw [G280]) (by rw [G280]) (fun w _ _ => by rw [G280]) e2, t2_B.ext B91 (fun o ho => ?_) (fun w h3 h4 => h1 _ (by omega)), gH.ext (hp _ (by decide)) (fun i _ => by rw [hp 274 (by decide)]) (fun i j _ _ _ o _ => hp _ (by omega)) (h1 0 (by decide)) (h1 1 (by decide)) (fun w _ hw => h1 w hw) (Nat.le_refl _)⟩, gD.ext (fun q i hq _ => by rw [hp q (by omega)]), ?_⟩, fun p hp2 i => ?_⟩
  · rw [G280, gn 1 (by decide)]
    rw [I.1.1.2.1]
  · rw [hp 271 (by decide), gfr 271 (by decide) (by decide) (by decide), mf 271 (by decide)]
  · rw [hp 272 (by decide), gfr 272 (by decide) (by decide) (by decide), mf 272 (by decide)]
  · rw [hp _ (by omega), gO i j hi hj (by rw [mf 272 (by decide)]; exact hv) o ho, mf _ (by omega)]
  · rw [hp _ (by omega), gfr _ (by omega) (by omega) (by omega)]
  · rw [hp 277 (by decide), gfr 277 (by decide) (by decide) (by decide), mf 277 (by decide)]
    exact p7
  · have hp2 : fl_N l'.2 ≤ p := hp2
    have h285 : 285 ≤ fl_N l'.2 := by unfold fl_N; omega
    show G p i = _
    rw [hp p (by omega)]
    exact gX.2.2.1 p hp2 i
/-- back -/
theorem t2_back (Z : t2_Z (f, l)) : fl_Tq (pw_P L xs) 121 0 (fl_args (am_mxl (pw_P L xs) 121) [lx_x]) [] (f, l) (t2_Mid L xs 324 [at_this]) := by
  have W : t2_W f f l.2 := Z.2
  obtain ⟨I, ⟨H1, B1, H3⟩, D, p7⟩ := id W
  have hM : t2_M f l.2 := t2_Good.M Z.1
  show fl_Tq (pw_P L xs) 121 0 [some (.inr (.inr (.inl (0, 0))))] [] (f, l) _
  refine x_back_A ?_
  obtain ⟨s1, s2, s3⟩ := B1.src (by decide)
  refine fl_Tq.cal rfl rfl (fl_bo rfl) rfl ?_
  refine bs_0_24_q (p := 1) (q := 91) t2_blk_now t2_blk_image (by omega) s1 s2 s3 ?_
  refine x_back_B ?_
  refine fl_Tq.cal rfl rfl (fl_bo rfl) rfl ?_
  have S := bs_same (f := f) (p := 1) (q := 91) (by omega) s1
  have mf : ∀ r : Nat, (r < 1 ∨ 91 ≤ r) → bs_m f 1 91 r = f r := fun r hr => bs_fr s1 (by omega)
  have mX := t2_bsX (p := 1) Z.1.2.2 s1 (by decide)
  have BN : t2_B (bs_m f 1 91) 1 (f 281) 0 := B1.same (by decide) S.1 (by rw [S.2.1]; exact I.2.2.1.2.1.2.2.2.1) (by rw [S.2.2]; exact I.2.2.1.2.2.1.1)
  have e6 : bs_m f 1 91 1 6 = f 281 7 := BN.1.1.2.1
  generalize bs_m f 1 91 = M at mf mX BN e6 ⊢
  refine hb_q (R := f 281) mX (fun j hj => by rw [mf _ (by omega), mf _ (by omega)]; exact hM j hj) (D.ext (fun q i hq _ => by rw [mf q (by omega)])) (H3.ext (mf _ (by decide)) (fun i _ => by rw [mf 274 (by decide)]) (fun i j _ _ _ o _ => mf _ (by omega)) rfl rfl (fun w _ _ => rfl) (Nat.le_refl _)) (fun g l' e1 e2 gX gH gD gfr gO => ?_)
  refine x_back_C ?_
  have g281 : g 281 = f 281 := by rw [gfr 281 (by decide) (by decide) (by decide), mf 281 (by decide)]
  refine ⟨gX.2.2.1, ⟨_, rfl⟩, ?_⟩
  refine r_back_q (m := (g, l')) (fun G hp h1 => ?_)
  have hp : ∀ p : Nat, p ≠ 280 → G p = g p := hp
  have h1 : ∀ j : Nat, j < 29780 → G 280 j = g 281 j := h1
  rw [g281] at h1
  have G281 : G 281 = f 281 := by rw [hp 281 (by decide)]; exact g281
  show some (Sum.inl (G 280 7)) = some (Sum.inl (g 1 6)) ∧ t2_W G G l'.2 ∧ t2_U (G, l')
  refine ⟨?_, ⟨t2_B.now (t2_B.ext BN (fun o ho => ?_) (fun w h3 h4 => h1 _ (by omega))), ⟨gH.ext (hp _ (by decide)) (fun i _ => by rw [hp 272 (by decide)]) (fun i j _ _ _ o _ => hp _ (by omega)) (h1 0 (by decide)) (h1 1 (by decide)) (fun w _ hw => h1 w hw) (Nat.le_refl _), t2_B.ext B1 (fun o ho => ?_) (fun w _ _ => by rw [G281]), H3.ext ?_ (fun i _ => ?_) (fun i j hi hj hv o ho => ?_) (by rw [G281]) (by rw [G281]) (fun w _ _ => by rw [G281]) e2⟩, gD.ext (fun q i hq _ => by rw [hp q (by omega)]), ?_⟩, fun p hp2 i => ?_⟩
  · rw [h1 7 (by decide), gfr 1 (by decide) (by decide) (by decide), e6]
  · rw [hp _ (by omega), gfr _ (by omega) (by omega) (by omega)]
  · rw [hp _ (by omega), gfr _ (by omega) (by omega) (by omega), mf _ (by omega)]
  · rw [hp 273 (by decide), gfr 273 (by decide) (by decide) (by decide), mf 273 (by decide)]
  · rw [hp 274 (by decide), gfr 274 (by decide) (by decide) (by decide), mf 274 (by decide)]
  · rw [hp _ (by omega), gO i j hi hj (by rw [mf 274 (by decide)]; exact hv) o ho, mf _ (by omega)]
  · rw [hp 277 (by decide), gfr 277 (by decide) (by decide) (by decide), mf 277 (by decide)]
    exact p7
  · have hp2 : fl_N l'.2 ≤ p := hp2
    have h285 : 285 ≤ fl_N l'.2 := by unfold fl_N; omega
    show G p i = _
    rw [hp p (by omega)]
    exact gX.2.2.1 p hp2 i
end T2MQ6
