/-! ===== THE RELATION of the whole: blocks, histories, the image ===== -/
section T2W
variable {fc fr fc' fr' : t2_F} {d d' b b' h h' q : Nat} {R R' : Nat → Int32}
theorem c0_I.ext (h : c0_I fc fr) (P : ∀ p : Nat, 1 ≤ p → p < 91 → fc' p = fc p) (W : ∀ w : Nat, 2 ≤ w → w < 1420 → fr' 280 w = fr 280 w) : c0_I fc' fr' := by
  obtain ⟨⟨⟨g5, g6, g7, g8⟩, ⟨g9, g10, g11, g12⟩, g13, g14, g15, g16⟩, rs, ⟨gt, gw, tr, gm⟩, cl, ok⟩ := h
  have P1 : fc' 1 = fc 1 := P 1 (by decide) (by decide)
  have n16 := ok.2.1.2.2.1
  refine ⟨⟨⟨?_, ?_, ?_, ?_⟩, ⟨?_, ?_, ?_, ?_⟩, ?_, ?_, ?_, ?_⟩, rs.congr (P _ (by decide) (by decide)) (fun k hk => W _ (by omega) (by omega)), ⟨gt.congr ok.2.2.2.2.2.1.1.2 (P _ (by decide) (by decide)) (P _ (by decide) (by decide)) (P _ (by decide) (by decide)) (P _ (by decide) (by decide)) (P _ (by decide) (by decide)) (P _ (by decide) (by decide)) (fun w hw => W w (by omega) (by omega)), gw.congr (P _ (by decide) (by decide)) (P _ (by decide) (by decide)) (P _ (by decide) (by decide)) (P _ (by decide) (by decide)) (P _ (by decide) (by decide)) (fun w hw => W w (by omega) (by omega)), tr.congr (P _ (by decide) (by decide)) (P _ (by decide) (by decide)) (fun w hw => W w (by omega) (by omega)), gm.congr (fun p hp => P p (by omega) (by omega)) (fun w hw => W w (by omega) (by omega))⟩, fun C hC => ?_, ?_⟩
  · rw [P1, W 2 (by decide) (by decide), g5]
  · rw [P1, W 7 (by decide) (by decide), g6]
  · rw [P1, W 3 (by decide) (by decide), g7]
  · rw [P1, W 4 (by decide) (by decide), g8]
  · rw [P1, W 5 (by decide) (by decide), g9]
  · rw [P1, W 14 (by decide) (by decide), g10]
  · rw [P1, W 8 (by decide) (by decide), g11]
  · rw [P1, W 9 (by decide) (by decide), g12]
  · rw [P1, W 10 (by decide) (by decide), g13]
  · rw [P1, W 11 (by decide) (by decide), g14]
  · rw [P1, W 12 (by decide) (by decide), g15]
  · rw [P1, W 13 (by decide) (by decide), g16]
  · rw [W 2 (by decide) (by decide)] at hC
    exact ⟨(cl C hC).1.congr (P _ (by omega) (by omega)) (fun k hk => W _ (by omega) (by omega)), (cl C hC).2.congr (fun j _ _ => by rw [P _ (by omega) (by omega)]) (fun p hp => P p (by omega) (by omega)) (fun w hw => W _ (by omega) (by omega))⟩
  · refine ok.upd (fun w hw => W w (by omega) (by omega)) (fun k hk => by rw [W _ (by omega) (by omega)]; exact ok.s hk) (by rw [W 5 (by decide) (by decide)]; exact ok.2.1.1) (by rw [W 4 (by decide) (by decide)]; exact ok.2.1.2.1) (by rw [W 7 (by decide) (by decide)]; exact ok.2.1.2.2.2) (by rw [W 16 (by decide) (by decide), W 20 (by decide) (by decide), W 21 (by decide) (by decide)]; exact ok.2.2.2.2.2.2.1) (fun C hC => ?_)
    exact (ok.2.2.2.2.2.2.2 C hC).congr (fun w hw => W _ (by omega) (by omega)) (by rw [W 7 (by decide) (by decide)]; exact Int.le_refl _)
/-- the block at d, as if it were now's; a row from word b on, as if it were the reference's -/
def t2_at (f : t2_F) (d : Nat) : t2_F := fun r => f (d + r - 1)
def t2_wd (R : Nat → Int32) (b : Nat) : t2_F := fun _ w => R (b + w)
/-- a state of the class, in the block d, is the one of the words from b on -/
def t2_B (fc : t2_F) (d : Nat) (R : Nat → Int32) (b : Nat) : Prop := c0_I (t2_at fc d) (t2_wd R b)
theorem t2_B.ext (H : t2_B fc d R b) (e : ∀ o : Nat, o < 90 → fc' (d + o) = fc (d + o)) (e2 : ∀ w : Nat, 2 ≤ w → w < 1420 → R' (b' + w) = R (b + w)) : t2_B fc' d R' b' :=
  c0_I.ext H (fun p h1 h2 => by
    show fc' (d + p - 1) = fc (d + p - 1)
    rw [show d + p - 1 = d + (p - 1) by omega]
    exact e _ (by omega)) (fun w h1 h2 => e2 w h1 h2)
theorem t2_B.of_now (H : c0_I fc fr) : t2_B fc 1 (fr 280) 0 :=
  c0_I.ext H (fun p h1 h2 => by
    show fc (1 + p - 1) = fc p
    rw [show 1 + p - 1 = p by omega]) (fun w h1 h2 => by
    show fr 280 (0 + w) = fr 280 w
    rw [Nat.zero_add])
theorem t2_B.now (H : t2_B fc 1 (fr 280) 0) : c0_I fc fr :=
  c0_I.ext H (fun p h1 h2 => by
    show fc p = fc (1 + p - 1)
    rw [show 1 + p - 1 = p by omega]) (fun w h1 h2 => by
    show fr 280 w = fr 280 (0 + w)
    rw [Nat.zero_add])
theorem t2_B.n (H : t2_B fc d R b) : fc d 5 = R (b + 2) := H.1.1.1
theorem t2_B.src (H : t2_B fc d R b) (hd : 1 ≤ d) : (0 ≤ (fc d 5).toInt ∧ (fc d 5).toInt ≤ 16) ∧ (∀ j : Nat, (j : Int) < (fc d 5).toInt → fc (d + 17 + 4 * j) 10 = 0 ∨ fc (d + 17 + 4 * j) 10 = 1) ∧ (fc (d + 9) 6 = 0 ∨ fc (d + 9) 6 = 1) := by
  have n := H.n
  have hc : 0 ≤ (fc d 5).toInt ∧ (fc d 5).toInt ≤ 16 := c0_I.hc H
  refine ⟨hc, fun j hj => ?_, ?_⟩
  · have c := H.2.2.2.1 j (by rw [n] at hj; exact hj)
    have o := H.2.2.2.2.2.2.2.2.2.2.2 j (by rw [n] at hj; exact hj)
    have e : fc (d + 17 + 4 * j) 10 = R (b + (444 + 61 * j + 15)) := by
      have := c.2.2.1.1
      rw [show d + 17 + 4 * j = d + (18 + 4 * j) - 1 by omega]
      exact this
    have z : R (b + (444 + 61 * j + 15)) = 0 ∨ R (b + (444 + 61 * j + 15)) = 1 := o.2.2.2.2.2.1
    rw [e]
    exact z
  · have w := H.2.2.1.2.1.1.2.2.2
    have w1 : (fc (d + 9) 6).toInt = min (R (b + 16)).toInt 1 := w.1
    have w2 : 0 ≤ (R (b + 16)).toInt := w.2.1
    have c0 : (0 : Int32).toInt = 0 := rfl
    have c1 : (1 : Int32).toInt = 1 := by decide +kernel
    by_cases e : (R (b + 16)).toInt = 0
    · exact Or.inl (Int32.toInt.inj (by omega))
    · exact Or.inr (Int32.toInt.inj (by omega))
/-- the same words: the same state -/
theorem t2_B.same (H : t2_B fc d R b) (hd : 1 ≤ d) (e : t2_same (fun o => fc' (d' + o)) (fun o => fc (d + o)) (fc d 5).toInt.toNat) (h12 : fc' (d' + 12) 0 = (24 : Int32)) (h15 : fc' (d' + 15) 0 = (32 : Int32)) : t2_B fc' d' R b := by
  have n := H.n
  refine c0_I.same H ?_ h12 h15
  have e1 : (fun o => t2_at fc' d' (1 + o)) = (fun o => fc' (d' + o)) := by
    funext o
    show fc' (d' + (1 + o) - 1) = _
    rw [show d' + (1 + o) - 1 = d' + o by omega]
  have e2 : (fun o => t2_at fc d (1 + o)) = (fun o => fc (d + o)) := by
    funext o
    show fc (d + (1 + o) - 1) = _
    rw [show d + (1 + o) - 1 = d + o by omega]
  rw [e1, e2]
  show t2_same _ _ (R (b + 2)).toInt.toNat
  rw [← n]
  exact e
/-- a history of the class, and one of the words -/
def t2_H (fc : t2_F) (h q : Nat) (R : Nat → Int32) : Prop :=
  fc q 2 = R 0 ∧ (0 ≤ (fc q 1).toInt ∧ (fc q 1).toInt ≤ 19) ∧ (0 ≤ (R 0).toInt ∧ (R 0).toInt ≤ 20) ∧ (0 ≤ (R 1).toInt ∧ (R 1).toInt ≤ 19) ∧
  ∀ i : Nat, (i : Int) < (R 0).toInt → ∃ j : Nat, j < h ∧ (fc (q + 1) (((fc q 1).toInt.toNat + i) % 20)).toInt = 285 + 90 * (j : Int) ∧ t2_B fc (285 + 90 * j) R (1418 + 1418 * (((R 1).toInt.toNat + i) % 20))
theorem t2_H.ext (H : t2_H fc h q R) (e1 : fc' q = fc q) (e2 : ∀ i : Nat, i < 20 → fc' (q + 1) i = fc (q + 1) i) (e3 : ∀ i j : Nat, i < 20 → j < h → (fc (q + 1) i).toInt = 285 + 90 * (j : Int) → ∀ o : Nat, o < 90 → fc' (285 + 90 * j + o) = fc (285 + 90 * j + o)) (r0 : R' 0 = R 0) (r1 : R' 1 = R 1) (r2 : ∀ w : Nat, 1420 ≤ w → w < 29780 → R' w = R w) (hh : h ≤ h') : t2_H fc' h' q R' := by
  obtain ⟨a, b, c, d, e⟩ := H
  rw [← e1] at a b
  rw [← r0] at a c
  rw [← r1] at d
  refine ⟨a, b, c, d, fun i hi => ?_⟩
  obtain ⟨j, j1, j2, j3⟩ := e i (by rw [← r0]; exact hi)
  refine ⟨j, by omega, by rw [e1, e2 _ (Nat.mod_lt _ (by decide))]; exact j2, ?_⟩
  rw [r1]
  refine t2_B.ext j3 (e3 _ j (Nat.mod_lt _ (by decide)) j1 j2) (fun w h1 h2 => r2 _ (by omega) ?_)
  have := Nat.mod_lt ((R 1).toInt.toNat + i) (show 0 < 20 by decide)
  omega
/-- no state is in two places -/
def t2_D (fc : t2_F) : Prop := ∀ q q' i i' : Nat, (q = 272 ∨ q = 274) → (q' = 272 ∨ q' = 274) → i < 20 → i' < 20 → fc q i ≠ 0 → fc q i = fc q' i' → q = q' ∧ i = i'
theorem t2_D.ext (H : t2_D fc) (e : ∀ q i : Nat, (q = 272 ∨ q = 274) → i < 20 → fc' q i = fc q i) : t2_D fc' := fun q q' i i' hq hq' hi hi' => by
  rw [e q i hq hi, e q' i' hq' hi']
  exact H q q' i i' hq hq' hi hi'
/-- a state that is made now is another one than all others -/
theorem t2_D.new (H : t2_D fc) {h i0 : Nat} {x : Int32} {l1 : Nat → Nat → Int64} (hX : at_XI (fc, l1, h)) (hx : x.toInt = 285 + 90 * (h : Int)) (q0 : Nat) (e : ∀ q i : Nat, (q = 272 ∨ q = 274) → i < 20 → fc' q i = if q = q0 ∧ i = i0 then x else fc q i) : t2_D fc' := fun q q' i i' hq hq' hi hi' => by
  have old : ∀ q i : Nat, (q = 272 ∨ q = 274) → i < 20 → fc q i ≠ x := fun q i hq hi hc => by
    rcases hX.1 q hq i hi with h0 | ⟨j, hj, h1⟩
    · have h0 : fc q i = 0 := h0
      rw [hc] at h0
      rw [h0] at hx
      have : (0 : Int32).toInt = 0 := rfl
      omega
    · have h1 : (fc q i).toInt = 285 + 90 * (j : Int) := h1
      have hj : j < h := hj
      rw [hc] at h1
      omega
  rw [e q i hq hi, e q' i' hq' hi']
  intro h1 h2
  by_cases c : q = q0 ∧ i = i0
  · by_cases c' : q' = q0 ∧ i' = i0
    · exact ⟨c.1.trans c'.1.symm, c.2.trans c'.2.symm⟩
    · rw [if_pos c, if_neg c'] at h2
      exact absurd h2.symm (old q' i' hq' hi')
  · rw [if_neg c] at h1 h2
    by_cases c' : q' = q0 ∧ i' = i0
    · rw [if_pos c'] at h2
      exact absurd h2 (old q i hq hi)
    · rw [if_neg c'] at h2
      exact H q q' i i' hq hq' hi hi' h1 h2
/-- THE RELATION of the whole -/
def t2_W (fc fr : t2_F) (h : Nat) : Prop := c0_I fc fr ∧ (t2_H fc h 271 (fr 280) ∧ t2_B fc 91 (fr 281) 0 ∧ t2_H fc h 273 (fr 281)) ∧ t2_D fc ∧ fr 277 7 = 0
theorem t2_W.ext (H : t2_W fc fr h) (P : ∀ p : Nat, (1 ≤ p ∧ p < 181) ∨ (271 ≤ p ∧ p < 275) ∨ (285 ≤ p ∧ p < fl_N h) → fc' p = fc p) (e0 : ∀ w : Nat, w < 29780 → fr' 280 w = fr 280 w) (e1 : ∀ w : Nat, w < 29780 → fr' 281 w = fr 281 w) (e7 : fr' 277 7 = fr 277 7) : t2_W fc' fr' h := by
  obtain ⟨a, ⟨b, c, d⟩, e, g⟩ := H
  refine ⟨a.ext (fun p h1 h2 => P p (by omega)) (fun w h1 h2 => e0 w (by omega)), ⟨b.ext (P _ (by omega)) (fun i _ => by rw [P 272 (by omega)]) (fun i j _ hj _ o ho => P _ (by unfold fl_N; omega)) (e0 0 (by decide)) (e0 1 (by decide)) (fun w _ hw => e0 w hw) (Nat.le_refl _), t2_B.ext c (fun o ho => P _ (by omega)) (fun w h1 h2 => e1 _ (by omega)), d.ext (P _ (by omega)) (fun i _ => by rw [P 274 (by omega)]) (fun i j _ hj _ o ho => P _ (by unfold fl_N; omega)) (e1 0 (by decide)) (e1 1 (by decide)) (fun w _ hw => e1 w hw) (Nat.le_refl _)⟩, e.ext (fun q i hq _ => by rw [P q (by omega)]), by rw [e7]; exact g⟩
/-- now alone is another one -/
theorem t2_W.upd (H : t2_W fc fr h) (I' : c0_I fc' fr') (P : ∀ p : Nat, (91 ≤ p ∧ p < 181) ∨ (271 ≤ p ∧ p < 275) ∨ (285 ≤ p ∧ p < fl_N h) → fc' p = fc p) (e0 : ∀ w : Nat, w < 29780 → (w < 2 ∨ 1420 ≤ w) → fr' 280 w = fr 280 w) (e1 : ∀ w : Nat, w < 29780 → fr' 281 w = fr 281 w) (e7 : fr' 277 7 = fr 277 7) : t2_W fc' fr' h := by
  obtain ⟨a, ⟨b, c, d⟩, e, g⟩ := H
  refine ⟨I', ⟨b.ext (P _ (by omega)) (fun i _ => by rw [P 272 (by omega)]) (fun i j _ hj _ o ho => P _ (by unfold fl_N; omega)) (e0 0 (by decide) (by decide)) (e0 1 (by decide) (by decide)) (fun w h1 hw => e0 w hw (Or.inr h1)) (Nat.le_refl _), t2_B.ext c (fun o ho => P _ (by omega)) (fun w h1 h2 => e1 _ (by omega)), d.ext (P _ (by omega)) (fun i _ => by rw [P 274 (by omega)]) (fun i j _ hj _ o ho => P _ (by unfold fl_N; omega)) (e1 0 (by decide)) (e1 1 (by decide)) (fun w _ hw => e1 w hw) (Nat.le_refl _)⟩, e.ext (fun q i hq _ => by rw [P q (by omega)]), by rw [e7]; exact g⟩
end T2W
