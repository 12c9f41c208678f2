/-! ===== the whole relation over a keep and an undo ===== -/
section T2WK
variable {fc fr gc gr : t2_F} {l l' : t2_L}
/-- what the class's keep leaves -/
def t2_CK (f g : t2_F) (l l' : t2_L) : Prop := ∃ i d : Nat, (i : Int) = ((f 271 1).toInt + (f 271 2).toInt) % 20 ∧ t2_kept f g l l' 271 i d ∧ (g 271 2).toInt = min ((f 271 2).toInt + 1) 20 ∧ (g 271 1).toInt = (if (f 271 2).toInt = 20 then ((f 271 1).toInt + 1) % 20 else (f 271 1).toInt) ∧ (∀ r : Nat, r ≠ 271 → r ≠ 272 → (r < d ∨ d + 90 ≤ r) → g r = f r) ∧ t2_same (fun o => g (d + o)) (fun o => f (1 + o)) (f 1 5).toInt.toNat ∧ g (d + 12) 0 = f (d + 12) 0 ∧ g (d + 15) 0 = f (d + 15) 0
/-- what the reference's keep leaves -/
def t2_RK (f g : t2_F) : Prop := ∃ s : Nat, s < 20 ∧ (s : Int) = ((f 280 1).toInt + (f 280 0).toInt) % 20 ∧ (∀ p : Nat, p ≠ 280 → g p = f p) ∧ (∀ j : Nat, 2 ≤ j → (j < 1420 + 1418 * s ∨ 1420 + 1418 * s + 1418 ≤ j) → g 280 j = f 280 j) ∧ (∀ j : Nat, j < 1418 → g 280 (1420 + 1418 * s + j) = f 280 (2 + j)) ∧ (g 280 0).toInt = min ((f 280 0).toInt + 1) 20 ∧ (g 280 1).toInt = (if (f 280 0).toInt = 20 then ((f 280 1).toInt + 1) % 20 else (f 280 1).toInt)
/-- the rows of lines know how many they are at most -/
def t2_M (fc : t2_F) (h : Nat) : Prop := ∀ j : Nat, j ≤ h → fc (285 + 90 * j + 12) 0 = (24 : Int32) ∧ fc (285 + 90 * j + 15) 0 = (32 : Int32)
theorem t2_CK.now (C : t2_CK fc gc l l') {p : Nat} (h1 : p ≠ 271) (h2 : p ≠ 272) (h3 : p < 285) : gc p = fc p := by
  obtain ⟨i0, d0, -, ⟨-, hl2, -⟩, -, -, cfr, -⟩ := C
  refine cfr p h1 h2 (Or.inl ?_)
  rcases hl2 with ⟨-, -, j, -, e⟩ | ⟨-, -, e, -⟩ <;> omega
theorem t2_W.keep (hX : at_XI (fc, l)) (hM : t2_M fc l.2) (H : t2_W fc fr l.2) (C : t2_CK fc gc l l') (K : t2_RK fr gr) : t2_W gc gr l'.2 := by
  have cnow := fun (p : Nat) (h1 : p ≠ 271) (h2 : p ≠ 272) (h3 : p < 285) => C.now h1 h2 h3
  obtain ⟨a, ⟨⟨b1, b2, b3, b4, b5⟩, c, d⟩, e, g7⟩ := H
  obtain ⟨i0, d0, hi0, ⟨hl1, hl2, hg1, hg2⟩, c2, c1, cfr, csm, c12, c15⟩ := C
  obtain ⟨s, hs, hs2, k1, k2, k3, k4, k5⟩ := K
  have c0 : (0 : Int32).toInt = 0 := rfl
  have i20 : i0 < 20 := by omega
  have hg1 : (gc 272 i0).toInt = d0 := hg1
  have hg2 : ∀ k : Nat, k ≠ i0 → gc 272 k = fc 272 k := hg2
  obtain ⟨j0, hj0, hd0⟩ : ∃ j0 : Nat, j0 ≤ l.2 ∧ d0 = 285 + 90 * j0 := by
    rcases hl2 with ⟨-, -, j, hj, e⟩ | ⟨-, -, e, -⟩
    · exact ⟨j, by omega, e⟩
    · exact ⟨l.2, Nat.le_refl _, e⟩
  have hj0' : j0 < l'.2 := by
    rcases hl2 with ⟨h1, -, j, hj, e⟩ | ⟨h1, -, e, -⟩ <;> omega
  have hll : l.2 ≤ l'.2 := by omega
  have gI : c0_I gc gr := a.ext (fun p h1 h2 => cnow p (by omega) (by omega) (by omega)) (fun w h1 h2 => k2 w h1 (Or.inl (by omega)))
  -- the block of another entry isn't the one that was written
  have oth : ∀ q i j : Nat, (q = 272 ∨ q = 274) → i < 20 → ¬ (q = 272 ∧ i = i0) → j < l.2 → (fc q i).toInt = 285 + 90 * (j : Int) → ∀ o : Nat, o < 90 → gc (285 + 90 * j + o) = fc (285 + 90 * j + o) := by
    intro q i j hq hi hne hj hv o ho
    have hjj : j ≠ j0 := by
      intro hc
      rcases hl2 with ⟨-, h1, -⟩ | ⟨-, -, h1, -⟩
      · have h1 : (fc 272 i0).toInt = d0 := h1
        exact hne (e q 272 i i0 hq (Or.inl rfl) hi i20 (fun h0 => by rw [h0] at hv; omega) (Int32.toInt.inj (by omega)))
      · omega
    exact cfr _ (by omega) (by omega) (by omega)
  have h281 : gr 281 = fr 281 := k1 281 (by decide)
  -- one step more, the eldest gone if there were 20
  obtain ⟨t, t0, t1, t2, t3, t4⟩ : ∃ t : Nat, (t = 0 ∧ (fr 280 0).toInt < 20 ∨ t = 1 ∧ (fr 280 0).toInt = 20) ∧ (gc 271 1).toInt = ((fc 271 1).toInt + t) % 20 ∧ (gr 280 1).toInt = ((fr 280 1).toInt + t) % 20 ∧ (gr 280 0).toInt = (fr 280 0).toInt + 1 - t ∧ (gc 271 2).toInt = (fr 280 0).toInt + 1 - t := by
    rw [b1] at c1 c2
    by_cases h20 : (fr 280 0).toInt = 20
    · rw [if_pos h20] at c1 k5
      exact ⟨1, by omega, by omega, by omega, by omega, by omega⟩
    · rw [if_neg h20] at c1 k5
      exact ⟨0, by omega, by omega, by omega, by omega, by omega⟩
  rw [b1] at hi0
  refine ⟨gI, ⟨⟨Int32.toInt.inj (by omega), by omega, by omega, by omega, fun i hi => ?_⟩, t2_B.ext c (fun o ho => cnow _ (by omega) (by omega) (by omega)) (fun w h1 h2 => by rw [h281]), d.ext (cnow _ (by decide) (by decide) (by decide)) (fun i _ => by rw [cnow 274 (by decide) (by decide) (by decide)]) (fun i j hi hj hv => oth 274 i j (Or.inr rfl) hi (by omega) hj hv) (by rw [h281]) (by rw [h281]) (fun w _ _ => by rw [h281]) hll⟩, ?_, by rw [k1 277 (by decide)]; exact g7⟩
  · have p1 : ((gc 271 1).toInt.toNat + i) % 20 = ((fc 271 1).toInt.toNat + (i + t)) % 20 := by omega
    have p2 : ((gr 280 1).toInt.toNat + i) % 20 = ((fr 280 1).toInt.toNat + (i + t)) % 20 := by omega
    rw [p1, p2]
    show ∃ j : Nat, j < l'.2 ∧ (gc 272 (((fc 271 1).toInt.toNat + (i + t)) % 20)).toInt = 285 + 90 * (j : Int) ∧ t2_B gc (285 + 90 * j) (gr 280) (1418 + 1418 * (((fr 280 1).toInt.toNat + (i + t)) % 20))
    by_cases hlast : ((i + t : Nat) : Int) = (fr 280 0).toInt
    · have q1 : ((fc 271 1).toInt.toNat + (i + t)) % 20 = i0 := by omega
      have q2 : ((fr 280 1).toInt.toNat + (i + t)) % 20 = s := by omega
      rw [q1, q2]
      refine ⟨j0, hj0', by rw [hg1, hd0]; omega, ?_⟩
      have m := hM j0 hj0
      rw [← hd0] at m ⊢
      have B1 := (t2_B.of_now a).same (fc' := gc) (d' := d0) (by decide) csm (by rw [c12]; exact m.1) (by rw [c15]; exact m.2)
      refine t2_B.ext B1 (fun o ho => rfl) (fun w h1 h2 => ?_)
      have := k3 (w - 2) (by omega)
      rw [show 1420 + 1418 * s + (w - 2) = 1418 + 1418 * s + w by omega, show 2 + (w - 2) = 0 + w by omega] at this
      exact this
    · have hlt : ((i + t : Nat) : Int) < (fr 280 0).toInt := by omega
      obtain ⟨j, j1, j2, j3⟩ := b5 (i + t) hlt
      have j2 : (fc 272 (((fc 271 1).toInt.toNat + (i + t)) % 20)).toInt = 285 + 90 * (j : Int) := j2
      have n1 : ((fc 271 1).toInt.toNat + (i + t)) % 20 ≠ i0 := by omega
      have n2 : ((fr 280 1).toInt.toNat + (i + t)) % 20 ≠ s := by omega
      have n3 := Nat.mod_lt ((fr 280 1).toInt.toNat + (i + t)) (show 0 < 20 by decide)
      refine ⟨j, by omega, by rw [hg2 _ n1]; exact j2, ?_⟩
      refine t2_B.ext j3 (oth 272 _ j (Or.inl rfl) (Nat.mod_lt _ (by decide)) (fun h => n1 h.2) j1 j2) (fun w h1 h2 => k2 _ (by omega) ?_)
      generalize ((fr 280 1).toInt.toNat + (i + t)) % 20 = z at *
      omega
  · rcases hl2 with ⟨-, h1, -⟩ | ⟨-, h1, h2, -⟩
    · have h1 : (fc 272 i0).toInt = d0 := h1
      refine e.ext (fun q i hq hi => ?_)
      rcases hq with rfl | rfl
      · by_cases hi2 : i = i0
        · subst hi2
          exact Int32.toInt.inj (by omega)
        · exact hg2 i hi2
      · rw [cnow 274 (by decide) (by decide) (by decide)]
    · obtain ⟨la, lh⟩ := l
      refine e.new (h := lh) (i0 := i0) (x := gc 272 i0) hX (by rw [hg1]; dsimp only at h2; omega) 272 (fun q i hq hi => ?_)
      rcases hq with rfl | rfl
      · by_cases hi2 : i = i0
        · subst hi2
          rw [if_pos ⟨rfl, rfl⟩]
        · rw [if_neg (fun h => hi2 h.2)]
          exact hg2 i hi2
      · rw [if_neg (fun h => by omega), cnow 274 (by decide) (by decide) (by decide)]
/-- undo -/
theorem t2_W.undo (H : t2_W fc fr l.2) {j s : Nat} (hs2 : (s : Int) = ((fr 280 1).toInt + ((fr 280 0).toInt - 1)) % 20) (hpos : 1 ≤ (fr 280 0).toInt)
    (hB : t2_B fc (285 + 90 * j) (fr 280) (1418 + 1418 * s))
    (c2 : (gc 271 2).toInt = (fc 271 2).toInt - 1) (c1 : gc 271 1 = fc 271 1) (cfr : ∀ r : Nat, r ≠ 271 → 91 ≤ r → gc r = fc r) (csm : t2_same (fun o => gc (1 + o)) (fun o => fc (285 + 90 * j + o)) (fc (285 + 90 * j) 5).toInt.toNat) (c13 : gc 13 0 = fc 13 0) (c16 : gc 16 0 = fc 16 0)
    (k1 : ∀ p : Nat, p ≠ 280 → gr p = fr p) (k2 : ∀ j : Nat, (j = 1 ∨ 1420 ≤ j) → gr 280 j = fr 280 j) (k3 : ∀ j : Nat, j < 1418 → gr 280 (2 + j) = fr 280 (1420 + 1418 * s + j)) (k4 : (gr 280 0).toInt = (fr 280 0).toInt - 1) : t2_W gc gr l.2 := by
  obtain ⟨a, ⟨⟨b1, b2, b3, b4, b5⟩, c, d⟩, e, g7⟩ := H
  have h281 : gr 281 = fr 281 := k1 281 (by decide)
  have gI : c0_I gc gr := by
    have B1 := hB.same (fc' := gc) (d' := 1) (by omega) csm (by rw [show 1 + 12 = 13 by rfl, c13]; exact a.2.2.1.2.1.2.2.2.1) (by rw [show 1 + 15 = 16 by rfl, c16]; exact a.2.2.1.2.2.1.1)
    refine t2_B.now (t2_B.ext B1 (fun o ho => rfl) (fun w h1 h2 => ?_))
    have := k3 (w - 2) (by omega)
    rw [show 1420 + 1418 * s + (w - 2) = 1418 + 1418 * s + w by omega, show 2 + (w - 2) = 0 + w by omega] at this
    exact this
  have r1 : gr 280 1 = fr 280 1 := k2 1 (Or.inl rfl)
  refine ⟨gI, ⟨⟨Int32.toInt.inj (by rw [b1] at c2; omega), by rw [c1]; exact b2, by omega, by rw [r1]; exact b4, fun i hi => ?_⟩, t2_B.ext c (fun o ho => cfr _ (by omega) (by omega)) (fun w h1 h2 => by rw [h281]), d.ext (cfr _ (by decide) (by decide)) (fun i _ => by rw [cfr 274 (by decide) (by decide)]) (fun i j hi hj hv o ho => cfr _ (by omega) (by omega)) (by rw [h281]) (by rw [h281]) (fun w _ _ => by rw [h281]) (Nat.le_refl _)⟩, e.ext (fun q i hq _ => by rw [cfr q (by omega) (by omega)]), by rw [k1 277 (by decide)]; exact g7⟩
  obtain ⟨jj, j1, j2, j3⟩ := b5 i (by omega)
  refine ⟨jj, j1, ?_, ?_⟩
  · rw [c1, show 271 + 1 = 272 by rfl, cfr 272 (by decide) (by decide)]
    exact j2
  · rw [r1]
    exact t2_B.ext j3 (fun o ho => cfr _ (by omega) (by omega)) (fun w h1 h2 => k2 _ (by omega))
end T2WK
