/-! ===== History.keep, run ===== -/
section T2KEEP
variable {L : Nat} {xs : Nat → Int32} {f : t2_F} {l : t2_L} {Q : Option fl_V → fl_M → Prop}
theorem t2_mod20 {a b : Int32} (ha : 0 ≤ a.toInt ∧ a.toInt ≤ 20) (hb : 0 ≤ b.toInt ∧ b.toInt ≤ 20) : ((a + b) - (a + b) / (20 : Int32) * (20 : Int32)).toInt = (a.toInt + b.toInt) % 20 := by
  have c20 : (20 : Int32).toInt = 20 := by decide +kernel
  have e : (a + b).toInt = a.toInt + b.toInt := at_add32 (by omega) (by omega)
  have := (t2_irem (T := a + b) (l := (20 : Int32)) (by omega) (by omega)).1
  rw [this, e, c20]
/-- what is left of the histories by a keep at place i, in the block d -/
def t2_kept (f g : t2_F) (l l' : t2_L) (q i d : Nat) : Prop :=
  l'.1 = l.1 ∧ ((l'.2 = l.2 ∧ (f (q + 1) i).toInt = d ∧ ∃ j, j < l.2 ∧ d = 285 + 90 * j) ∨ (l'.2 = l.2 + 1 ∧ f (q + 1) i = 0 ∧ d = 285 + 90 * l.2 ∧ l.2 < 40)) ∧
  (g (q + 1) i).toInt = d ∧ (∀ k : Nat, k ≠ i → g (q + 1) k = f (q + 1) k)
theorem hk_q (hX : at_XI (f, l)) (hF : 0 ≤ (f 271 1).toInt ∧ (f 271 1).toInt ≤ 19) (hc : 0 ≤ (f 271 2).toInt ∧ (f 271 2).toInt ≤ 20) (hn : 0 ≤ (f 1 5).toInt ∧ (f 1 5).toInt ≤ 16) (hz : ∀ j : Nat, (j : Int) < (f 1 5).toInt → f (1 + 17 + 4 * j) 10 = 0 ∨ f (1 + 17 + 4 * j) 10 = 1) (hw : f (1 + 9) 6 = 0 ∨ f (1 + 9) 6 = 1)
    (k : ∀ (g : t2_F) (l' : t2_L) (i d : Nat), (i : Int) = ((f 271 1).toInt + (f 271 2).toInt) % 20 → t2_kept f g l l' 271 i d → (g 271 2).toInt = min ((f 271 2).toInt + 1) 20 → (g 271 1).toInt = (if (f 271 2).toInt = 20 then ((f 271 1).toInt + 1) % 20 else (f 271 1).toInt) → (∀ r : Nat, r ≠ 271 → r ≠ 272 → (r < d ∨ d + 90 ≤ r) → g r = f r) → t2_same (fun o => g (d + o)) (fun o => f (1 + o)) (f 1 5).toInt.toNat → g (d + 12) 0 = f (d + 12) 0 → g (d + 15) 0 = f (d + 15) 0 → Q none (g, l')) :
    fl_Tq (pw_P L xs) 20 0 (fl_args (am_mxl (pw_P L xs) 20) [.inr (.inr (.inl (73, 271))), .inr (.inr (.inl (1, 1)))]) [] (f, l) Q := by
  have c20 : (20 : Int32).toInt = 20 := by decide +kernel
  have c1 : (1 : Int32).toInt = 1 := by decide +kernel
  -- from 28 on
  have go : ∀ F : t2_F, (∀ r : Nat, r ≠ 271 → F r = f r) → 0 ≤ (F 271 1).toInt ∧ (F 271 1).toInt ≤ 19 → 0 ≤ (F 271 2).toInt ∧ (F 271 2).toInt ≤ 19 → ((F 271 1).toInt + (F 271 2).toInt) % 20 = ((f 271 1).toInt + (f 271 2).toInt) % 20 → (F 271 2).toInt + 1 = min ((f 271 2).toInt + 1) 20 → (F 271 1).toInt = (if (f 271 2).toInt = 20 then ((f 271 1).toInt + 1) % 20 else (f 271 1).toInt) → fl_Tq (pw_P L xs) 20 28 [some (.inr (.inr (.inl (73, 271)))), some (.inr (.inr (.inl (1, 1))))] [] (F, l) Q := by
    intro F hFr f1 f2 fi fc ff
    have X : at_XI (F, l) := at_XI.keep hX rfl (fun p j hp => by
      show F p j = f p j
      rw [hFr p (by
        rcases hp with h | h | h | h | h | h | h | h
        · omega
        · omega
        · unfold fl_N at h; omega
        · omega
        · omega
        · omega
        · omega
        · omega)])
    have md := t2_mod20 (a := F 271 1) (b := F 271 2) (by omega) (by omega)
    refine hk_B ?_
    refine fl_Tq.cal rfl rfl (fl_bo rfl) rfl ?_
    -- the end, whatever block it is
    have fin : ∀ (G : t2_F) (l' : t2_L) (d : Nat), t2_blk l'.2 d 24 → 285 ≤ d → (∀ r : Nat, r ≠ 272 → G r = F r) → t2_kept f (fl_row (bs_m G d 1) 271 (upd ((bs_m G d 1) 271) 2 ((bs_m G d 1) 271 2 + (1 : Int32)))) l l' 271 ((((F 271 1).toInt + (F 271 2).toInt) % 20).toNat) d → fl_Tq (pw_P L xs) 20 40 [some (.inr (.inr (.inl (73, 271)))), some (.inr (.inr (.inl (1, 1))))] [.inr (.inr (.inl (25, d)))] (G, l') Q := by
      intro G l' d B hd hG hkk
      have e1 : G 1 = f 1 := by rw [hG _ (by decide), hFr _ (by decide)]
      have hn' : 0 ≤ (G 1 5).toInt ∧ (G 1 5).toInt ≤ 16 := by rw [e1]; exact hn
      have en : (G 1 5).toInt.toNat = (f 1 5).toInt.toNat := by rw [e1]
      have S := bs_same (f := G) (p := d) (q := 1) (by omega) hn'
      have fr : ∀ r : Nat, r < d ∨ d + 90 ≤ r → bs_m G d 1 r = G r := fun r hr => bs_fr hn' hr
      refine hk_C ⟨(B.place 0 25 (by decide) (by decide +kernel)).1, (B.place 0 25 (by decide) (by decide +kernel)).2⟩ B t2_blk_now (by omega) hn' (fun j hj => ?_) (by rw [hG _ (by decide), hFr _ (by decide)]; exact hw) ?_
      · rw [hG _ (by rw [e1] at hj; omega), hFr _ (by rw [e1] at hj; omega)]
        exact hz j (by rw [← e1]; exact hj)
      · refine hk_D ?_
        have g2 : bs_m G d 1 271 = F 271 := by rw [fr _ (by omega), hG _ (by decide)]
        refine k _ l' _ d (by omega) hkk ?_ ?_ (fun r h1 h2 h3 => ?_) ?_ ?_ ?_
        · rw [fl_row_self, upd_self, g2, at_add32 (by omega) (by omega), c1]
          omega
        · rw [fl_row_self, upd_ne (by decide), g2]
          exact ff
        · rw [fl_row_ne h1, fr r h3, hG r h2, hFr r h1]
        · have S1 := S.1
          rw [en] at S1
          have es : (fun o => fl_row (bs_m G d 1) 271 (upd ((bs_m G d 1) 271) 2 ((bs_m G d 1) 271 2 + (1 : Int32))) (d + o)) = (fun o => bs_m G d 1 (d + o)) := by
            funext o
            rw [fl_row_ne (by omega)]
          rw [es]
          exact S1.src (fun o ho => by show G (1 + o) = f (1 + o); rw [hG _ (by omega), hFr _ (by omega)]) (by omega)
        · rw [fl_row_ne (by omega), S.2.1, hG _ (by omega), hFr _ (by omega)]
        · rw [fl_row_ne (by omega), S.2.2, hG _ (by omega), hFr _ (by omega)]
    refine t2_stateX_q (p := 271) (i := (((F 271 1).toInt + (F 271 2).toInt) % 20).toNat) X (by decide +kernel) (by omega) (by omega) (fun j hj hx => ?_) (fun x h0 hx hX2 h40 => ?_)
    · have hx' : (F 272 (((F 271 1).toInt + (F 271 2).toInt) % 20).toNat).toInt = 285 + 90 * (j : Int) := hx
      have B : t2_blk l.2 (285 + 90 * j) 24 := t2_blk_made hj
      refine fin F l (285 + 90 * j) B (by omega) (fun r _ => rfl) ⟨rfl, Or.inl ⟨rfl, ?_, j, hj, rfl⟩, ?_, fun k' hk' => ?_⟩
      · show (f 272 _).toInt = _
        rw [← hFr 272 (by decide), hx']
        omega
      · show (fl_row (bs_m F (285 + 90 * j) 1) 271 _ 272 _).toInt = _
        have e1 : F 1 = f 1 := hFr _ (by decide)
        rw [fl_row_ne (by decide), bs_fr (by rw [e1]; exact hn) (by omega), hx']
        omega
      · show fl_row (bs_m F (285 + 90 * j) 1) 271 _ 272 k' = f 272 k'
        have e1 : F 1 = f 1 := hFr _ (by decide)
        rw [fl_row_ne (by decide), bs_fr (by rw [e1]; exact hn) (by omega), hFr _ (by decide)]
    · have h0' : F 272 (((F 271 1).toInt + (F 271 2).toInt) % 20).toNat = 0 := h0
      have hx' : x.toInt = 285 + 90 * (l.2 : Int) := hx
      have h40' : l.2 < 40 := h40
      have gr : ∀ r : Nat, r ≠ 272 → fl_up F 272 (((F 271 1).toInt + (F 271 2).toInt) % 20).toNat x r = F r := fun r hr => by
        funext w
        exact bl_un (fun h => absurd h hr)
      refine fin (fl_up F 272 (((F 271 1).toInt + (F 271 2).toInt) % 20).toNat x) (l.1, l.2 + 1) (285 + 90 * l.2) (t2_blk_made (Nat.lt_succ_self _)) (by omega) gr ⟨rfl, Or.inr ⟨rfl, ?_, rfl, h40'⟩, ?_, fun k' hk' => ?_⟩
      · show f 272 _ = 0
        rw [← hFr 272 (by decide)]
        exact h0'
      · show (fl_row (bs_m _ (285 + 90 * l.2) 1) 271 _ 272 _).toInt = _
        have e1 : fl_up F 272 (((F 271 1).toInt + (F 271 2).toInt) % 20).toNat x 1 = f 1 := by rw [gr _ (by decide), hFr _ (by decide)]
        rw [fl_row_ne (by decide), bs_fr (by rw [e1]; exact hn) (by omega), bl_ue, hx']
        omega
      · show fl_row (bs_m _ (285 + 90 * l.2) 1) 271 _ 272 k' = f 272 k'
        have e1 : fl_up F 272 (((F 271 1).toInt + (F 271 2).toInt) % 20).toNat x 1 = f 1 := by rw [gr _ (by decide), hFr _ (by decide)]
        rw [fl_row_ne (by decide), bs_fr (by rw [e1]; exact hn) (by omega), bl_un (fun _ => hk'), hFr _ (by decide)]
  show fl_Tq (pw_P L xs) 20 0 [some (.inr (.inr (.inl (73, 271)))), some (.inr (.inr (.inl (1, 1))))] [] (f, l) Q
  refine hk_A (fun e => ?_) (fun e => ?_)
  · have md := t2_mod20 (a := f 271 1) (b := (1 : Int32)) (by omega) (by omega)
    have s : ((f 271 2) - (1 : Int32)).toInt = (f 271 2).toInt - 1 := by rw [at_sub32 (by omega) (by omega), c1]
    rw [c1] at md
    refine go _ (fun r hr => fl_row_ne hr) ?_ ?_ ?_ ?_ ?_
    · rw [fl_row_self, upd_ne (by decide), upd_self, md]
      omega
    · rw [fl_row_self, upd_self, s]
      omega
    · rw [fl_row_self, upd_ne (by decide), upd_self, upd_self, md, s]
      omega
    · rw [fl_row_self, upd_self, s]
      omega
    · rw [fl_row_self, upd_ne (by decide), upd_self, md, if_pos (by omega)]
  · refine go f (fun r _ => rfl) hF ?_ rfl ?_ ?_
    · omega
    · omega
    · rw [if_neg (by omega)]
/-- takeBackInto -/
theorem hu_q {i j : Nat} (hX : at_XI (f, l)) (hF : 0 ≤ (f 271 1).toInt ∧ (f 271 1).toInt ≤ 19) (hc : 1 ≤ (f 271 2).toInt ∧ (f 271 2).toInt ≤ 20) (hi : (i : Int) = ((f 271 1).toInt + ((f 271 2).toInt - 1)) % 20) (hj : j < l.2) (hd : (f 272 i).toInt = 285 + 90 * (j : Int)) (hn : 0 ≤ (f (285 + 90 * j) 5).toInt ∧ (f (285 + 90 * j) 5).toInt ≤ 16) (hz : ∀ c : Nat, (c : Int) < (f (285 + 90 * j) 5).toInt → f (285 + 90 * j + 17 + 4 * c) 10 = 0 ∨ f (285 + 90 * j + 17 + 4 * c) 10 = 1) (hw : f (285 + 90 * j + 9) 6 = 0 ∨ f (285 + 90 * j + 9) 6 = 1)
    (k : ∀ g : t2_F, (g 271 2).toInt = (f 271 2).toInt - 1 → g 271 1 = f 271 1 → (∀ r : Nat, r ≠ 271 → 91 ≤ r → g r = f r) → g 0 = f 0 → t2_same (fun o => g (1 + o)) (fun o => f (285 + 90 * j + o)) (f (285 + 90 * j) 5).toInt.toNat → g 13 0 = f 13 0 → g 16 0 = f 16 0 → Q none (g, l)) :
    fl_Tq (pw_P L xs) 21 0 (fl_args (am_mxl (pw_P L xs) 21) [.inr (.inr (.inl (73, 271))), .inr (.inr (.inl (1, 1)))]) [] (f, l) Q := by
  have c20 : (20 : Int32).toInt = 20 := by decide +kernel
  have c1 : (1 : Int32).toInt = 1 := by decide +kernel
  have s : ((f 271 2) - (1 : Int32)).toInt = (f 271 2).toInt - 1 := by rw [at_sub32 (by omega) (by omega), c1]
  have md := t2_mod20 (a := f 271 1) (b := (f 271 2) - (1 : Int32)) (by omega) (by omega)
  show fl_Tq (pw_P L xs) 21 0 [some (.inr (.inr (.inl (73, 271)))), some (.inr (.inr (.inl (1, 1))))] [] (f, l) Q
  refine hu_A ?_
  generalize hG : fl_row f 271 (upd (f 271) 2 ((f 271 2) - (1 : Int32))) = G
  have Gr : ∀ r : Nat, r ≠ 271 → G r = f r := fun r hr => by rw [← hG, fl_row_ne hr]
  have X : at_XI (G, l) := at_XI.keep hX rfl (fun p j hp => by
    show G p j = f p j
    rw [Gr p (by
      rcases hp with h | h | h | h | h | h | h | h
      · omega
      · omega
      · unfold fl_N at h; omega
      · omega
      · omega
      · omega
      · omega
      · omega)])
  have B : t2_blk l.2 (285 + 90 * j) 24 := t2_blk_made hj
  refine fl_Tq.cal rfl rfl (fl_bo rfl) rfl ?_
  refine t2_stateX_q (p := 271) (i := i) X (by decide +kernel) (by rw [md, s]; omega) (by omega) (fun j' hj' hx => ?_) (fun x h0 => ?_)
  · have hx' : (G 272 i).toInt = 285 + 90 * (j' : Int) := hx
    rw [Gr 272 (by decide), hd] at hx'
    have : j' = j := by omega
    subst this
    have ed : G (285 + 90 * j') = f (285 + 90 * j') := Gr _ (by omega)
    have hn' : 0 ≤ (G (285 + 90 * j') 5).toInt ∧ (G (285 + 90 * j') 5).toInt ≤ 16 := by rw [ed]; exact hn
    have S := bs_same (f := G) (p := 1) (q := 285 + 90 * j') (by omega) hn'
    refine hu_B (d := 285 + 90 * j') ⟨(B.place 0 25 (by decide) (by decide +kernel)).1, (B.place 0 25 (by decide) (by decide +kernel)).2⟩ t2_blk_now B (by omega) hn' (fun c hcc => ?_) (by rw [Gr _ (by omega)]; exact hw) ?_
    · rw [Gr _ (by omega)]
      exact hz c (by rw [← ed]; exact hcc)
    · refine fl_Tq.ret rfl rfl rfl (k _ ?_ ?_ (fun r h1 h2 => ?_) ?_ ?_ ?_ ?_)
      · rw [bs_fr hn' (by omega), ← hG, fl_row_self, upd_self, s]
      · rw [bs_fr hn' (by omega), ← hG, fl_row_self, upd_ne (by decide)]
      · rw [bs_fr hn' (by omega), Gr r h1]
      · rw [bs_fr hn' (by omega), Gr 0 (by decide)]
      · have S1 := S.1
        rw [ed] at S1
        exact S1.src (fun o ho => by show G (285 + 90 * j' + o) = f (285 + 90 * j' + o); rw [Gr _ (by omega)]) (by omega)
      · have := S.2.1
        rw [Gr (1 + 12) (by decide)] at this
        exact this
      · have := S.2.2
        rw [Gr (1 + 15) (by decide)] at this
        exact this
  · have h0' : G 272 i = 0 := h0
    rw [Gr 272 (by decide)] at h0'
    rw [h0'] at hd
    have c0 : (0 : Int32).toInt = 0 := rfl
    omega
end T2KEEP
