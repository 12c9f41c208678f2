/-! ===== History.become, run: 273 from 271 ===== -/
section T2HBEhi
variable {L : Nat} {xs : Nat → Int32} {f : t2_F} {l : t2_L} {Q : Option fl_V → fl_M → Prop} {R : Nat → Int32}
/-- behind j rounds -/
def hi_P (f : t2_F) (l : t2_L) (R : Nat → Int32) (j : Nat) (g : t2_F) (l' : t2_L) : Prop :=
  (l'.1 = l.1 ∧ l.2 ≤ l'.2) ∧ at_XI (g, l') ∧ t2_M g l'.2 ∧ t2_D g ∧ (g 273 1 = 0 ∧ g 273 2 = f 271 2) ∧ (∀ r : Nat, r < 285 → r ≠ 273 → r ≠ 274 → g r = f r) ∧
  (∀ i jj : Nat, i < 20 → jj < l.2 → (f 272 i).toInt = 285 + 90 * (jj : Int) → ∀ o : Nat, o < 90 → g (285 + 90 * jj + o) = f (285 + 90 * jj + o)) ∧
  ∀ i : Nat, i < j → ∃ d : Nat, d < l'.2 ∧ (g 274 i).toInt = 285 + 90 * (d : Int) ∧ t2_B g (285 + 90 * d) R (1418 + 1418 * (((R 1).toInt.toNat + i) % 20))
theorem hi_q (hX : at_XI (f, l)) (hM : t2_M f l.2) (hD : t2_D f) (H : t2_H f l.2 271 R)
    (k : ∀ (g : t2_F) (l' : t2_L), l'.1 = l.1 → l.2 ≤ l'.2 → at_XI (g, l') → t2_H g l'.2 273 R → t2_D g → (∀ r : Nat, r < 285 → r ≠ 273 → r ≠ 274 → g r = f r) → (∀ i jj : Nat, i < 20 → jj < l.2 → (f 272 i).toInt = 285 + 90 * (jj : Int) → ∀ o : Nat, o < 90 → g (285 + 90 * jj + o) = f (285 + 90 * jj + o)) → Q none (g, l')) :
    fl_Tq (pw_P L xs) 22 0 (fl_args (am_mxl (pw_P L xs) 22) [.inr (.inr (.inl (73, 273))), .inr (.inr (.inl (73, 271)))]) [] (f, l) Q := by
  obtain ⟨b1, b2, b3, b4, b5⟩ := H
  have c0 : (0 : Int32).toInt = 0 := rfl
  show fl_Tq (pw_P L xs) 22 0 [some (.inr (.inr (.inl (73, 273)))), some (.inr (.inr (.inl (73, 271)))), none] [] (f, l) Q
  refine hi_A ?_
  have loop : ∀ (g : t2_F) (l' : t2_L), hi_P f l R 0 g l' → fl_Tq (pw_P L xs) 22 15 [some (.inr (.inr (.inl (73, 273)))), some (.inr (.inr (.inl (73, 271)))), some (.inl (Int32.ofNat 0))] [] (g, l') Q := by
    refine t2_for (n := (R 0).toInt.toNat) (S := fun j => ∀ (g : t2_F) (l' : t2_L), hi_P f l R j g l' → fl_Tq (pw_P L xs) 22 15 [some (.inr (.inr (.inl (73, 273)))), some (.inr (.inr (.inl (73, 271)))), some (.inl (Int32.ofNat j))] [] (g, l') Q) (fun j hj hS g l' hP => ?_) (fun g l' hP => ?_)
    · obtain ⟨⟨p1, p2⟩, pX, pM, pD, ⟨pt1, pt2⟩, pf, pO, pE⟩ := hP
      have ej : (Int32.ofNat j).toInt = j := at_ofN (by omega)
      refine hi_B1 (by rw [pt2, b1, ej]; omega) ?_
      refine fl_Tq.cal rfl rfl (fl_bo rfl) rfl ?_
      -- with the dest's block
      have mid : ∀ (G : t2_F) (l2 : t2_L) (dn : Nat), dn < l2.2 → at_XI (G, l2) → t2_M G l2.2 → t2_D G → l2.1 = l.1 → l.2 ≤ l2.2 → l'.2 ≤ l2.2 → (G 274 j).toInt = 285 + 90 * (dn : Int) → (∀ r : Nat, r ≠ 274 → G r = g r) → (∀ k : Nat, k ≠ j → G 274 k = g 274 k) → fl_Tq (pw_P L xs) 22 28 [some (.inr (.inr (.inl (73, 273)))), some (.inr (.inr (.inl (73, 271)))), some (.inl (Int32.ofNat j))] [.inr (.inr (.inl (25, 285 + 90 * dn)))] (G, l2) Q := by
        intro G l2 dn hdn GX GM GD e1 e2 e2' hG1 hG2 hG3
        have A : t2_blk l2.2 (285 + 90 * dn) 24 := t2_blk_made hdn
        have hd : fk_K (285 + 90 * dn) = 25 ∧ 285 + 90 * dn < fl_N l2.2 := ⟨(A.place 0 25 (by decide) (by decide +kernel)).1, (A.place 0 25 (by decide) (by decide +kernel)).2⟩
        refine hi_B2 hd ?_
        refine fl_Tq.cal rfl rfl (fl_oks_ok ⟨True.intro, fl_okp (by decide +kernel) (by decide), hd, True.intro⟩) rfl ?_
        have eO : G 271 = f 271 := by rw [hG2 _ (by decide), pf _ (by decide) (by decide) (by decide)]
        have e272 : G 272 = f 272 := by rw [hG2 _ (by decide), pf _ (by decide) (by decide) (by decide)]
        have md := t2_mod20 (a := G 271 1) (b := Int32.ofNat j) (by rw [eO]; omega) (by omega)
        rw [eO, ej] at md
        obtain ⟨je, je1, je2, je3⟩ := b5 j (by omega)
        have je2 : (f 272 (((f 271 1).toInt.toNat + j) % 20)).toInt = 285 + 90 * (je : Int) := je2
        have hm20 := Nat.mod_lt ((f 271 1).toInt.toNat + j) (show 0 < 20 by decide)
        refine t2_stateX_q (p := 271) (i := ((f 271 1).toInt.toNat + j) % 20) GX (by decide +kernel) (by rw [eO, md]; omega) hm20 (fun jj hjj hx => ?_) (fun x h0 => ?_)
        · have hx : (G 272 (((f 271 1).toInt.toNat + j) % 20)).toInt = 285 + 90 * (jj : Int) := hx
          have hjj : jj < l2.2 := hjj
          rw [e272, je2] at hx
          have : jj = je := by omega
          subst this
          have ne : dn ≠ jj := fun h => by
            subst h
            have := GD 274 272 j (((f 271 1).toInt.toNat + j) % 20) (by decide) (by decide) (by omega) hm20 (fun h => by rw [h] at hG1; omega) (Int32.toInt.inj (by rw [hG1, e272, je2]))
            exact absurd this.1 (by decide)
          have B : t2_blk l2.2 (285 + 90 * jj) 24 := t2_blk_made hjj
          have he : fk_K (285 + 90 * jj) = 25 ∧ 285 + 90 * jj < fl_N l2.2 := ⟨(B.place 0 25 (by decide) (by decide +kernel)).1, (B.place 0 25 (by decide) (by decide +kernel)).2⟩
          have blk : ∀ o : Nat, o < 90 → G (285 + 90 * jj + o) = f (285 + 90 * jj + o) := fun o ho => by rw [hG2 _ (by omega)]; exact pO _ jj hm20 je1 je2 o ho
          have BG : t2_B G (285 + 90 * jj) R (1418 + 1418 * (((R 1).toInt.toNat + j) % 20)) := t2_B.ext je3 blk (fun w _ _ => rfl)
          obtain ⟨s1, s2, s3⟩ := BG.src (by omega)
          have hpq : 285 + 90 * dn + 90 ≤ 285 + 90 * jj ∨ 285 + 90 * jj + 90 ≤ 285 + 90 * dn := by omega
          refine hi_B3 hd he A B hpq s1 s2 s3 ?_
          rw [t2_k1]
          have S := bs_same (f := G) hpq s1
          have fr : ∀ r : Nat, (r < 285 + 90 * dn ∨ 285 + 90 * dn + 90 ≤ r) → bs_m G (285 + 90 * dn) (285 + 90 * jj) r = G r := fun r hr => bs_fr s1 hr
          have hN : 285 + 90 * dn + 90 ≤ fl_N l2.2 := by unfold fl_N; omega
          refine hS _ _ ⟨⟨e1, e2⟩, at_XI.keep GX rfl (fun p w hp => by
            show bs_m G (285 + 90 * dn) (285 + 90 * jj) p w = G p w
            rw [fr p (by
              rcases hp with h | h | h | h | h | h | h | h
              · omega
              · omega
              · dsimp only at h; omega
              · omega
              · omega
              · omega
              · omega
              · omega)]), fun n hn => ?_, GD.ext (fun q i hq hi => by rw [fr q (by omega)]), ⟨by rw [fr 273 (by omega), hG2 273 (by decide)]; exact pt1, by rw [fr 273 (by omega), hG2 273 (by decide)]; exact pt2⟩, fun r hr h1 h2 => by rw [fr r (by omega), hG2 r h2]; exact pf r hr h1 h2, fun i n hi hn hv o ho => ?_, fun i hi => ?_⟩
          · by_cases e : n = dn
            · subst e
              rw [S.2.1, S.2.2]
              exact GM n hn
            · rw [fr _ (by omega), fr _ (by omega)]
              exact GM n hn
          · have nn : n ≠ dn := fun h => by
              subst h
              have := GD 274 272 j i (by decide) (by decide) (by omega) hi (fun h => by rw [h] at hG1; omega) (Int32.toInt.inj (by rw [hG1, e272, hv]))
              exact absurd this.1 (by decide)
            rw [fr _ (by omega), hG2 _ (by omega)]
            exact pO i n hi hn hv o ho
          · by_cases e : i = j
            · subst e
              refine ⟨dn, hdn, by rw [fr 274 (by omega)]; exact hG1, ?_⟩
              exact BG.same (by omega) S.1 (by rw [S.2.1]; exact (GM dn (by omega)).1) (by rw [S.2.2]; exact (GM dn (by omega)).2)
            · obtain ⟨d, d1, d2, d3⟩ := pE i (by omega)
              have nd : d ≠ dn := fun h => by
                subst h
                have := GD 274 274 i j (by decide) (by decide) (by omega) (by omega) (fun h => by rw [hG3 i e] at h; rw [h] at d2; omega) (Int32.toInt.inj (by rw [hG3 i e, d2, hG1]))
                exact absurd this.2 e
              refine ⟨d, by omega, by rw [fr 274 (by omega), hG3 i e]; exact d2, ?_⟩
              exact t2_B.ext d3 (fun o ho => by rw [fr _ (by omega), hG2 _ (by omega)]) (fun w _ _ => rfl)
        · have h0 : G 272 (((f 271 1).toInt.toNat + j) % 20) = 0 := h0
          rw [e272] at h0
          rw [h0] at je2
          omega
      refine t2_stateX_q (p := 273) (i := j) pX (by decide +kernel) ej (by omega) (fun dn hdn hx => ?_) (fun x h0 hx hX2 h40 => ?_)
      · exact mid g l' dn hdn pX pM pD p1 p2 (Nat.le_refl _) hx (fun r _ => rfl) (fun k _ => rfl)
      · have hx : x.toInt = 285 + 90 * (l'.2 : Int) := hx
        have gr : ∀ r : Nat, r ≠ 274 → fl_up g 274 j x r = g r := fun r hr => by
          funext w
          exact bl_un (fun h => absurd h hr)
        refine mid (fl_up g 274 j x) (l'.1, l'.2 + 1) l'.2 (Nat.lt_succ_self _) hX2 (fun n hn => ?_) (pD.new (h := l'.2) (l1 := l'.1) (x := x) (i0 := j) pX hx 274 (fun q i hq hi => ?_)) p1 (by show l.2 ≤ l'.2 + 1; omega) (by show l'.2 ≤ l'.2 + 1; omega) (by rw [bl_ue]; exact hx) gr (fun k hk => bl_un (fun _ => hk))
        · have hn : n ≤ l'.2 + 1 := hn
          by_cases e : n ≤ l'.2
          · rw [gr _ (by omega), gr _ (by omega)]
            exact pM n e
          · have u := hX2.2.2.1
            have u1 := u (285 + 90 * n + 12) (by show fl_N (l'.2 + 1) ≤ _; unfold fl_N; omega) 0
            have u2 := u (285 + 90 * n + 15) (by show fl_N (l'.2 + 1) ≤ _; unfold fl_N; omega) 0
            rw [show (285 + 90 * n + 12 - 285) % 90 = 12 by omega] at u1
            rw [show (285 + 90 * n + 15 - 285) % 90 = 15 by omega] at u2
            exact ⟨u1.trans (by decide +kernel), u2.trans (by decide +kernel)⟩
        · by_cases e : q = 274 ∧ i = j
          · rw [if_pos e, e.1, e.2, bl_ue]
          · rw [if_neg e]
            exact bl_un (fun h h2 => e ⟨h, h2⟩)
    · obtain ⟨⟨p1, p2⟩, pX, pM, pD, ⟨pt1, pt2⟩, pf, pO, pE⟩ := hP
      have ej : (Int32.ofNat (R 0).toInt.toNat).toInt = (R 0).toInt.toNat := at_ofN (by omega)
      refine hi_C (by rw [pt2, b1, ej]; omega) ?_
      refine k g l' p1 p2 pX ⟨by rw [pt2]; exact b1, by rw [pt1]; omega, b3, b4, fun i hi => ?_⟩ pD pf pO
      obtain ⟨d, d1, d2, d3⟩ := pE i (by omega)
      refine ⟨d, d1, ?_, d3⟩
      rw [pt1, show ((0 : Int32).toInt.toNat + i) % 20 = i by rw [c0]; show (0 + i) % 20 = i; omega]
      exact d2
  refine loop _ _ ⟨⟨rfl, Nat.le_refl _⟩, at_XI.keep hX rfl (fun p w hp => ?_), fun n hn => ?_, hD.ext (fun q i hq _ => by rw [fl_row_ne (by omega)]), ⟨?_, ?_⟩, fun r _ h1 _ => fl_row_ne h1, fun i n _ _ _ o _ => fl_row_ne (by omega), fun i hi => absurd hi (Nat.not_lt_zero _)⟩
  · show fl_row f 273 _ p w = f p w
    rw [fl_row_ne (by
      rcases hp with h | h | h | h | h | h | h | h
      · omega
      · omega
      · unfold fl_N at h; omega
      · omega
      · omega
      · omega
      · omega
      · omega)]
  · rw [fl_row_ne (by omega), fl_row_ne (by omega)]
    exact hM n hn
  · rw [fl_row_self, upd_ne (by decide), upd_self]
  · rw [fl_row_self, upd_self]
end T2HBEhi
/-! ===== History.become, run: 271 from 273 ===== -/
section T2HBEhb
variable {L : Nat} {xs : Nat → Int32} {f : t2_F} {l : t2_L} {Q : Option fl_V → fl_M → Prop} {R : Nat → Int32}
/-- behind j rounds -/
def hb_P (f : t2_F) (l : t2_L) (R : Nat → Int32) (j : Nat) (g : t2_F) (l' : t2_L) : Prop :=
  (l'.1 = l.1 ∧ l.2 ≤ l'.2) ∧ at_XI (g, l') ∧ t2_M g l'.2 ∧ t2_D g ∧ (g 271 1 = 0 ∧ g 271 2 = f 273 2) ∧ (∀ r : Nat, r < 285 → r ≠ 271 → r ≠ 272 → g r = f r) ∧
  (∀ i jj : Nat, i < 20 → jj < l.2 → (f 274 i).toInt = 285 + 90 * (jj : Int) → ∀ o : Nat, o < 90 → g (285 + 90 * jj + o) = f (285 + 90 * jj + o)) ∧
  ∀ i : Nat, i < j → ∃ d : Nat, d < l'.2 ∧ (g 272 i).toInt = 285 + 90 * (d : Int) ∧ t2_B g (285 + 90 * d) R (1418 + 1418 * (((R 1).toInt.toNat + i) % 20))
theorem hb_q (hX : at_XI (f, l)) (hM : t2_M f l.2) (hD : t2_D f) (H : t2_H f l.2 273 R)
    (k : ∀ (g : t2_F) (l' : t2_L), l'.1 = l.1 → l.2 ≤ l'.2 → at_XI (g, l') → t2_H g l'.2 271 R → t2_D g → (∀ r : Nat, r < 285 → r ≠ 271 → r ≠ 272 → g r = f r) → (∀ i jj : Nat, i < 20 → jj < l.2 → (f 274 i).toInt = 285 + 90 * (jj : Int) → ∀ o : Nat, o < 90 → g (285 + 90 * jj + o) = f (285 + 90 * jj + o)) → Q none (g, l')) :
    fl_Tq (pw_P L xs) 22 0 (fl_args (am_mxl (pw_P L xs) 22) [.inr (.inr (.inl (73, 271))), .inr (.inr (.inl (73, 273)))]) [] (f, l) Q := by
  obtain ⟨b1, b2, b3, b4, b5⟩ := H
  have c0 : (0 : Int32).toInt = 0 := rfl
  show fl_Tq (pw_P L xs) 22 0 [some (.inr (.inr (.inl (73, 271)))), some (.inr (.inr (.inl (73, 273)))), none] [] (f, l) Q
  refine hb_A ?_
  have loop : ∀ (g : t2_F) (l' : t2_L), hb_P f l R 0 g l' → fl_Tq (pw_P L xs) 22 15 [some (.inr (.inr (.inl (73, 271)))), some (.inr (.inr (.inl (73, 273)))), some (.inl (Int32.ofNat 0))] [] (g, l') Q := by
    refine t2_for (n := (R 0).toInt.toNat) (S := fun j => ∀ (g : t2_F) (l' : t2_L), hb_P f l R j g l' → fl_Tq (pw_P L xs) 22 15 [some (.inr (.inr (.inl (73, 271)))), some (.inr (.inr (.inl (73, 273)))), some (.inl (Int32.ofNat j))] [] (g, l') Q) (fun j hj hS g l' hP => ?_) (fun g l' hP => ?_)
    · obtain ⟨⟨p1, p2⟩, pX, pM, pD, ⟨pt1, pt2⟩, pf, pO, pE⟩ := hP
      have ej : (Int32.ofNat j).toInt = j := at_ofN (by omega)
      refine hb_B1 (by rw [pt2, b1, ej]; omega) ?_
      refine fl_Tq.cal rfl rfl (fl_bo rfl) rfl ?_
      -- with the dest's block
      have mid : ∀ (G : t2_F) (l2 : t2_L) (dn : Nat), dn < l2.2 → at_XI (G, l2) → t2_M G l2.2 → t2_D G → l2.1 = l.1 → l.2 ≤ l2.2 → l'.2 ≤ l2.2 → (G 272 j).toInt = 285 + 90 * (dn : Int) → (∀ r : Nat, r ≠ 272 → G r = g r) → (∀ k : Nat, k ≠ j → G 272 k = g 272 k) → fl_Tq (pw_P L xs) 22 28 [some (.inr (.inr (.inl (73, 271)))), some (.inr (.inr (.inl (73, 273)))), some (.inl (Int32.ofNat j))] [.inr (.inr (.inl (25, 285 + 90 * dn)))] (G, l2) Q := by
        intro G l2 dn hdn GX GM GD e1 e2 e2' hG1 hG2 hG3
        have A : t2_blk l2.2 (285 + 90 * dn) 24 := t2_blk_made hdn
        have hd : fk_K (285 + 90 * dn) = 25 ∧ 285 + 90 * dn < fl_N l2.2 := ⟨(A.place 0 25 (by decide) (by decide +kernel)).1, (A.place 0 25 (by decide) (by decide +kernel)).2⟩
        refine hb_B2 hd ?_
        refine fl_Tq.cal rfl rfl (fl_oks_ok ⟨True.intro, fl_okp (by decide +kernel) (by decide), hd, True.intro⟩) rfl ?_
        have eO : G 273 = f 273 := by rw [hG2 _ (by decide), pf _ (by decide) (by decide) (by decide)]
        have e274 : G 274 = f 274 := by rw [hG2 _ (by decide), pf _ (by decide) (by decide) (by decide)]
        have md := t2_mod20 (a := G 273 1) (b := Int32.ofNat j) (by rw [eO]; omega) (by omega)
        rw [eO, ej] at md
        obtain ⟨je, je1, je2, je3⟩ := b5 j (by omega)
        have je2 : (f 274 (((f 273 1).toInt.toNat + j) % 20)).toInt = 285 + 90 * (je : Int) := je2
        have hm20 := Nat.mod_lt ((f 273 1).toInt.toNat + j) (show 0 < 20 by decide)
        refine t2_stateX_q (p := 273) (i := ((f 273 1).toInt.toNat + j) % 20) GX (by decide +kernel) (by rw [eO, md]; omega) hm20 (fun jj hjj hx => ?_) (fun x h0 => ?_)
        · have hx : (G 274 (((f 273 1).toInt.toNat + j) % 20)).toInt = 285 + 90 * (jj : Int) := hx
          have hjj : jj < l2.2 := hjj
          rw [e274, je2] at hx
          have : jj = je := by omega
          subst this
          have ne : dn ≠ jj := fun h => by
            subst h
            have := GD 272 274 j (((f 273 1).toInt.toNat + j) % 20) (by decide) (by decide) (by omega) hm20 (fun h => by rw [h] at hG1; omega) (Int32.toInt.inj (by rw [hG1, e274, je2]))
            exact absurd this.1 (by decide)
          have B : t2_blk l2.2 (285 + 90 * jj) 24 := t2_blk_made hjj
          have he : fk_K (285 + 90 * jj) = 25 ∧ 285 + 90 * jj < fl_N l2.2 := ⟨(B.place 0 25 (by decide) (by decide +kernel)).1, (B.place 0 25 (by decide) (by decide +kernel)).2⟩
          have blk : ∀ o : Nat, o < 90 → G (285 + 90 * jj + o) = f (285 + 90 * jj + o) := fun o ho => by rw [hG2 _ (by omega)]; exact pO _ jj hm20 je1 je2 o ho
          have BG : t2_B G (285 + 90 * jj) R (1418 + 1418 * (((R 1).toInt.toNat + j) % 20)) := t2_B.ext je3 blk (fun w _ _ => rfl)
          obtain ⟨s1, s2, s3⟩ := BG.src (by omega)
          have hpq : 285 + 90 * dn + 90 ≤ 285 + 90 * jj ∨ 285 + 90 * jj + 90 ≤ 285 + 90 * dn := by omega
          refine hb_B3 hd he A B hpq s1 s2 s3 ?_
          rw [t2_k1]
          have S := bs_same (f := G) hpq s1
          have fr : ∀ r : Nat, (r < 285 + 90 * dn ∨ 285 + 90 * dn + 90 ≤ r) → bs_m G (285 + 90 * dn) (285 + 90 * jj) r = G r := fun r hr => bs_fr s1 hr
          have hN : 285 + 90 * dn + 90 ≤ fl_N l2.2 := by unfold fl_N; omega
          refine hS _ _ ⟨⟨e1, e2⟩, at_XI.keep GX rfl (fun p w hp => by
            show bs_m G (285 + 90 * dn) (285 + 90 * jj) p w = G p w
            rw [fr p (by
              rcases hp with h | h | h | h | h | h | h | h
              · omega
              · omega
              · dsimp only at h; omega
              · omega
              · omega
              · omega
              · omega
              · omega)]), fun n hn => ?_, GD.ext (fun q i hq hi => by rw [fr q (by omega)]), ⟨by rw [fr 271 (by omega), hG2 271 (by decide)]; exact pt1, by rw [fr 271 (by omega), hG2 271 (by decide)]; exact pt2⟩, fun r hr h1 h2 => by rw [fr r (by omega), hG2 r h2]; exact pf r hr h1 h2, fun i n hi hn hv o ho => ?_, fun i hi => ?_⟩
          · by_cases e : n = dn
            · subst e
              rw [S.2.1, S.2.2]
              exact GM n hn
            · rw [fr _ (by omega), fr _ (by omega)]
              exact GM n hn
          · have nn : n ≠ dn := fun h => by
              subst h
              have := GD 272 274 j i (by decide) (by decide) (by omega) hi (fun h => by rw [h] at hG1; omega) (Int32.toInt.inj (by rw [hG1, e274, hv]))
              exact absurd this.1 (by decide)
            rw [fr _ (by omega), hG2 _ (by omega)]
            exact pO i n hi hn hv o ho
          · by_cases e : i = j
            · subst e
              refine ⟨dn, hdn, by rw [fr 272 (by omega)]; exact hG1, ?_⟩
              exact BG.same (by omega) S.1 (by rw [S.2.1]; exact (GM dn (by omega)).1) (by rw [S.2.2]; exact (GM dn (by omega)).2)
            · obtain ⟨d, d1, d2, d3⟩ := pE i (by omega)
              have nd : d ≠ dn := fun h => by
                subst h
                have := GD 272 272 i j (by decide) (by decide) (by omega) (by omega) (fun h => by rw [hG3 i e] at h; rw [h] at d2; omega) (Int32.toInt.inj (by rw [hG3 i e, d2, hG1]))
                exact absurd this.2 e
              refine ⟨d, by omega, by rw [fr 272 (by omega), hG3 i e]; exact d2, ?_⟩
              exact t2_B.ext d3 (fun o ho => by rw [fr _ (by omega), hG2 _ (by omega)]) (fun w _ _ => rfl)
        · have h0 : G 274 (((f 273 1).toInt.toNat + j) % 20) = 0 := h0
          rw [e274] at h0
          rw [h0] at je2
          omega
      refine t2_stateX_q (p := 271) (i := j) pX (by decide +kernel) ej (by omega) (fun dn hdn hx => ?_) (fun x h0 hx hX2 h40 => ?_)
      · exact mid g l' dn hdn pX pM pD p1 p2 (Nat.le_refl _) hx (fun r _ => rfl) (fun k _ => rfl)
      · have hx : x.toInt = 285 + 90 * (l'.2 : Int) := hx
        have gr : ∀ r : Nat, r ≠ 272 → fl_up g 272 j x r = g r := fun r hr => by
          funext w
          exact bl_un (fun h => absurd h hr)
        refine mid (fl_up g 272 j x) (l'.1, l'.2 + 1) l'.2 (Nat.lt_succ_self _) hX2 (fun n hn => ?_) (pD.new (h := l'.2) (l1 := l'.1) (x := x) (i0 := j) pX hx 272 (fun q i hq hi => ?_)) p1 (by show l.2 ≤ l'.2 + 1; omega) (by show l'.2 ≤ l'.2 + 1; omega) (by rw [bl_ue]; exact hx) gr (fun k hk => bl_un (fun _ => hk))
        · have hn : n ≤ l'.2 + 1 := hn
          by_cases e : n ≤ l'.2
          · rw [gr _ (by omega), gr _ (by omega)]
            exact pM n e
          · have u := hX2.2.2.1
            have u1 := u (285 + 90 * n + 12) (by show fl_N (l'.2 + 1) ≤ _; unfold fl_N; omega) 0
            have u2 := u (285 + 90 * n + 15) (by show fl_N (l'.2 + 1) ≤ _; unfold fl_N; omega) 0
            rw [show (285 + 90 * n + 12 - 285) % 90 = 12 by omega] at u1
            rw [show (285 + 90 * n + 15 - 285) % 90 = 15 by omega] at u2
            exact ⟨u1.trans (by decide +kernel), u2.trans (by decide +kernel)⟩
        · by_cases e : q = 272 ∧ i = j
          · rw [if_pos e, e.1, e.2, bl_ue]
          · rw [if_neg e]
            exact bl_un (fun h h2 => e ⟨h, h2⟩)
    · obtain ⟨⟨p1, p2⟩, pX, pM, pD, ⟨pt1, pt2⟩, pf, pO, pE⟩ := hP
      have ej : (Int32.ofNat (R 0).toInt.toNat).toInt = (R 0).toInt.toNat := at_ofN (by omega)
      refine hb_C (by rw [pt2, b1, ej]; omega) ?_
      refine k g l' p1 p2 pX ⟨by rw [pt2]; exact b1, by rw [pt1]; omega, b3, b4, fun i hi => ?_⟩ pD pf pO
      obtain ⟨d, d1, d2, d3⟩ := pE i (by omega)
      refine ⟨d, d1, ?_, d3⟩
      rw [pt1, show ((0 : Int32).toInt.toNat + i) % 20 = i by rw [c0]; show (0 + i) % 20 = i; omega]
      exact d2
  refine loop _ _ ⟨⟨rfl, Nat.le_refl _⟩, at_XI.keep hX rfl (fun p w hp => ?_), fun n hn => ?_, hD.ext (fun q i hq _ => by rw [fl_row_ne (by omega)]), ⟨?_, ?_⟩, fun r _ h1 _ => fl_row_ne h1, fun i n _ _ _ o _ => fl_row_ne (by omega), fun i hi => absurd hi (Nat.not_lt_zero _)⟩
  · show fl_row f 271 _ p w = f p w
    rw [fl_row_ne (by
      rcases hp with h | h | h | h | h | h | h | h
      · omega
      · omega
      · unfold fl_N at h; omega
      · omega
      · omega
      · omega
      · omega
      · omega)]
  · rw [fl_row_ne (by omega), fl_row_ne (by omega)]
    exact hM n hn
  · rw [fl_row_self, upd_ne (by decide), upd_self]
  · rw [fl_row_self, upd_self]
end T2HBEhb
