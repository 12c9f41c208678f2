/-! ===== block 0: (4) of a second: shunts ===== -/
section C0SHUN
variable {fc fr g0 F G : t2_F} {C n X : Nat} {x y a above : Int32}
theorem c0_nx {p : Nat → Int32} (hp : ∀ k : Nat, k < n → fc (18 + 4 * k) 3 = p k) (hn : n ≤ 16) : ∀ m : Nat, m ≤ n → (c0_greatestAbove_a8 fc x y m).1 = t2_nx p y x m ∧ (c0_greatestAbove_a8 fc x y m).2 = if (t2_nx p y x m).toInt = (-1 : Int32).toInt then x else p ((t2_nx p y x m).toInt.toNat) := by
  have m1 : (-1 : Int32).toInt = -1 := by decide +kernel
  intro m
  induction m with
  | zero => intro _; exact ⟨rfl, (if_pos rfl).symm⟩
  | succ m ih =>
    intro hm
    obtain ⟨i1, i2⟩ := ih (by omega)
    have em : (Int32.ofNat m).toInt = m := at_ofN (by omega)
    have emn : (Int32.ofNat m).toInt.toNat = m := by omega
    unfold c0_greatestAbove_a8 t2_nx
    rw [i1, i2, hp m (by omega)]
    by_cases hb : t2_bt y m = false
    · have c1 : ((y >>> (Int32.ofNat m &&& 31)) &&& (1 : Int32)).toInt = 0 := (t2_bit0 (by omega)).mpr hb
      have c2 : (r_has_v y (Int32.ofNat m)).toInt = 0 := (t2_has0 (by omega)).mpr hb
      simp only [if_pos c1, if_pos c2]
      rcases t2_nx_in (p := p) (b := y) (x := x) m (by omega) with h | ⟨j, j1, j2, j3, j4⟩
      · rw [h]
        simp only [if_true]
        by_cases hx : x.toInt < (p m).toInt
        · simp only [if_pos hx]
          exact ⟨trivial, by rw [if_neg (by omega), emn]⟩
        · simp only [if_neg hx]
          exact ⟨trivial, (if_pos trivial).symm⟩
      · have ej : (Int32.ofNat j).toInt = j := at_ofN (by omega)
        have ejn : (Int32.ofNat j).toInt.toNat = j := by omega
        have nj : ¬ (Int32.ofNat j).toInt = (-1 : Int32).toInt := by omega
        rw [j2]
        simp only [if_neg nj, ejn]
        by_cases hx : (p j).toInt < (p m).toInt
        · simp only [if_pos hx, if_pos (show x.toInt < (p m).toInt by omega)]
          exact ⟨trivial, by rw [if_neg (by omega), emn]⟩
        · simp only [if_neg hx, ite_self]
          exact ⟨trivial, by rw [if_neg nj, ejn]⟩
    · have c1 : ¬ ((y >>> (Int32.ofNat m &&& 31)) &&& (1 : Int32)).toInt = 0 := fun h => hb ((t2_bit0 (by omega)).mp h)
      have c2 : ¬ (r_has_v y (Int32.ofNat m)).toInt = 0 := fun h => hb ((t2_has0 (by omega)).mp h)
      simp only [if_neg c1, if_neg c2]
      exact ⟨trivial, trivial⟩
theorem c0_rowrow {f : t2_F} {p k : Nat} {v v' : Int32} : fl_row (fl_row f p (upd (f p) k v)) p (upd ((fl_row f p (upd (f p) k v)) p) k v') = fl_row f p (upd (f p) k v') := by
  funext q j
  by_cases h : q = p
  · subst h
    simp only [fl_row_self]
    unfold upd
    by_cases e : j = k
    · simp only [if_pos e]
    · simp only [if_neg e]
  · rw [fl_row_ne h, fl_row_ne h, fl_row_ne h]
theorem c0_rowid {f : t2_F} {p k : Nat} {v : Int32} (h : f p k = v) : fl_row f p (upd (f p) k v) = f := by
  subst h
  funext q j
  by_cases h : q = p
  · subst h
    rw [fl_row_self]
    unfold upd
    by_cases e : j = k
    · rw [if_pos e, e]
    · rw [if_neg e]
  · rw [fl_row_ne h]
/-- the class's choice, with the bits b so far -/
theorem c0_ga {b : Int32} {p : Nat → Int32} (hc : (fc 1 5).toInt.toNat = n) (hn : n ≤ 16) (hp : ∀ k : Nat, k < n → fc (18 + 4 * k) 3 = p k) : c0_greatestAbove_v (fl_row fc 1 (upd (fc 1) 16 b)) x b = t2_nx p b x n := by
  unfold c0_greatestAbove_v
  rw [fl_row_self, upd_ne (by decide : 5 ≠ 16), hc]
  exact (c0_nx (fc := fl_row fc 1 (upd (fc 1) 16 b)) (p := p) (fun k hk => by rw [fl_row_ne (by omega)]; exact hp k hk) hn n (Nat.le_refl n)).1
theorem r_shunt_013 : r_shuntAll_f81 g0 0 280 = g0 280 := by
  unfold r_shuntAll_f81 r_shuntAll_l81
  exact r_shuntAll_f40_fr (p := 280) (fun j hj => by decide)
theorem c0_sync (hc : (fc 1 5).toInt.toNat = n) (hn : n ≤ 16) (hg : (g0 280 2).toInt.toNat = n) (hp : ∀ C : Nat, C < n → fc (18 + 4 * C) 3 = r_partOf_v g0 0 C) (h16 : fc 1 16 = 0) (h13 : g0 280 13 = 0) (hX : (r_shuntAll_j24_0 g0).toInt.toNat = X) (hab : (r_leastPart_v g0) + (g0 280 48) = above) : ∀ k : Nat, k ≤ r_shuntAll_R g0 → r_SI g0 (r_shuntAll_f81 g0 k) n ∧ t2_wf (fun f' => c0_shuntCells_g49 f' a above) X fc = t2_wf (fun f' => c0_shuntCells_g49 f' a above) (X - k) (fl_row fc 1 (upd (fc 1) 16 (r_shuntAll_f81 g0 k 280 13))) := by
  have m1 : (-1 : Int32).toInt = -1 := by decide +kernel
  have hRX : r_shuntAll_R g0 ≤ X := by rw [← hX]; exact t2_fst_le _ _
  intro k
  induction k with
  | zero =>
    intro _
    refine ⟨r_shunt_0 hg hn h13, ?_⟩
    rw [r_shunt_013, c0_rowid (h16.trans h13.symm)]
    rfl
  | succ k ih =>
    intro hk
    obtain ⟨i1, i2⟩ := ih (by omega)
    have ha := r_shunt_a (g0 := g0) k (by omega)
    rw [if_pos (by omega), hab] at ha
    have hne := r_shuntAll_kt (f := g0) (k := k) (by omega)
    have h2 : r_shuntAll_f81 g0 k 280 2 = g0 280 2 := i1.2.2.1 2 (by decide) (by decide) (by decide) (fun C hC => ⟨by omega, by omega⟩)
    have hv : r_nextShunt_v (r_shuntAll_f81 g0 k) above = t2_nx (r_shuntAll_f81 g0 k 282) (r_shuntAll_f81 g0 k 280 13) above n := by
      unfold r_nextShunt_v
      rw [h2, hg, r_nx]
    rw [ha, hv] at hne
    rcases t2_nx_in (p := r_shuntAll_f81 g0 k 282) (b := r_shuntAll_f81 g0 k 280 13) (x := above) n hn with h | ⟨j, j1, j2, j3, j4⟩
    · rw [h] at hne
      exact absurd rfl hne
    · have ej : (Int32.ofNat j).toInt = j := at_ofN (by omega)
      have ea : r_shuntAll_a81_0 g0 k = Int32.ofNat j := by rw [ha, hv, j2]
      have eS : r_shuntAll_f81 g0 (k + 1) = r_shuntAll_b81_m (r_shuntAll_f81 g0 k) ((r_leastPart_v g0) + (g0 280 48)) ((r_shuntAll_j24_0 g0).toInt.toNat) (Int32.ofNat j) k := by rw [r_shuntAll_fS, ea]
      have w13 := (r_b81_w (f := r_shuntAll_f81 g0 k) (a := (r_leastPart_v g0) + (g0 280 48)) (X := (r_shuntAll_j24_0 g0).toInt.toNat) (k := k) (j := j) (by omega) rfl).2.2.2.2.1
      refine ⟨by rw [eS]; exact r_SI_step hn i1 j1 j3, ?_⟩
      rw [i2, show X - k = (X - (k + 1)) + 1 by omega]
      have eg : c0_shuntCells_g49 (fl_row fc 1 (upd (fc 1) 16 (r_shuntAll_f81 g0 k 280 13))) a above = some (fl_row fc 1 (upd (fc 1) 16 (r_shuntAll_f81 g0 (k + 1) 280 13))) := by
        unfold c0_shuntCells_g49
        rw [fl_row_self, upd_self, c0_ga hc hn (fun C hC => (hp C hC).trans (i1.1 C hC).symm), j2, if_neg (by omega), eS, w13]
        congr 1
        have rr := c0_rowrow (f := fc) (p := 1) (k := 16) (v := r_shuntAll_f81 g0 k 280 13) (v' := r_shuntAll_f81 g0 k 280 13 ||| ((1 : Int32) <<< (Int32.ofNat j &&& 31)))
        rw [fl_row_self] at rr
        exact rr
      show (match c0_shuntCells_g49 (fl_row fc 1 (upd (fc 1) 16 (r_shuntAll_f81 g0 k 280 13))) a above with | none => _ | some f' => t2_wf _ (X - (k + 1)) f') = _
      rw [eg]
theorem c0_chosen (hc : (fc 1 5).toInt.toNat = n) (hn : n ≤ 16) (hg : (g0 280 2).toInt.toNat = n) (hp : ∀ C : Nat, C < n → fc (18 + 4 * C) 3 = r_partOf_v g0 0 C) (h16 : fc 1 16 = 0) (h13 : g0 280 13 = 0) (hX : (r_shuntAll_j24_0 g0).toInt.toNat = X) (hab : (r_leastPart_v g0) + (g0 280 48) = above) (ho : 0 ≤ (g0 280 47).toInt ∧ (g0 280 47).toInt ≤ 16) : r_SI g0 (r_shuntAll_m g0) n ∧ t2_wf (fun f' => c0_shuntCells_g49 f' a above) X fc = fl_row fc 1 (upd (fc 1) 16 (r_shuntAll_m g0 280 13)) := by
  have hRX : r_shuntAll_R g0 ≤ X := by rw [← hX]; exact t2_fst_le _ _
  obtain ⟨i1, i2⟩ := c0_sync (a := a) hc hn hg hp h16 h13 hX hab (r_shuntAll_R g0) (Nat.le_refl _)
  refine ⟨i1, i2.trans ?_⟩
  show _ = fl_row fc 1 (upd (fc 1) 16 (r_shuntAll_f81 g0 (r_shuntAll_R g0) 280 13))
  by_cases hR : r_shuntAll_R g0 = X
  · rw [hR, Nat.sub_self]
    rfl
  · have hl := r_shuntAll_kf (f := g0) ho
    rw [r_shunt_a (g0 := g0) (r_shuntAll_R g0) (by omega), if_pos (by omega), hab] at hl
    have h2 : r_shuntAll_f81 g0 (r_shuntAll_R g0) 280 2 = g0 280 2 := i1.2.2.1 2 (by decide) (by decide) (by decide) (fun C hC => ⟨by omega, by omega⟩)
    unfold r_nextShunt_v at hl
    rw [h2, hg, r_nx] at hl
    apply t2_wf_none
    unfold c0_shuntCells_g49
    rw [fl_row_self, upd_self, c0_ga hc hn (fun C hC => (hp C hC).trans (i1.1 C hC).symm), if_pos hl]
theorem c0_gs {f : t2_F} {i : Nat} {x : Int32} : c0_giveShunt_m f i x (18 + 4 * i) 2 = t2_heldTo_v (f (18 + 4 * i) 2 - t2_min_v x (f (18 + 4 * i) 2)) (0 : Int32) (f (18 + 4 * i) 0 * (3600 : Int32)) ∧
    c0_giveShunt_m f i x (18 + 4 * i) 3 = t2_partOf_v (c0_giveShunt_m f i x (18 + 4 * i) 2) (f (18 + 4 * i) 0 * (3600 : Int32)) ∧
    c0_giveShunt_m f i x (18 + 4 * i) 4 = t2_rb (c0_giveShunt_m f i x (18 + 4 * i) 3) ∧
    c0_giveShunt_m f i x (18 + 4 * i) 8 = t2_heldTo_v (f (18 + 4 * i) 8 - x) (0 : Int32) (f (18 + 4 * i) 0 * (3600 : Int32)) ∧
    ∀ j : Nat, j ≠ 2 → j ≠ 3 → j ≠ 4 → j ≠ 8 → c0_giveShunt_m f i x (18 + 4 * i) j = f (18 + 4 * i) j := by
  unfold c0_giveShunt_m c0_putReckoned_m c0_putCharge_m
  refine ⟨?_, ?_, ?_, ?_, fun j h2 h3 h4 h8 => ?_⟩ <;> simp (disch := omega) only [fl_row_self, upd_self, upd_ne]
/-- what the class's giving has left behind k cells -/
def c0_GI (fc F : t2_F) (b : Int32) (n k : Nat) : Prop :=
  (∀ C : Nat, C < n → (C < k ∧ t2_bt b C = true → F (18 + 4 * C) 2 = t2_heldTo_v (fc (18 + 4 * C) 2 - t2_min_v (fc 4 12) (fc (18 + 4 * C) 2)) (0 : Int32) (fc (18 + 4 * C) 0 * (3600 : Int32)) ∧ F (18 + 4 * C) 3 = t2_partOf_v (F (18 + 4 * C) 2) (fc (18 + 4 * C) 0 * (3600 : Int32)) ∧ F (18 + 4 * C) 4 = t2_rb (F (18 + 4 * C) 3) ∧ F (18 + 4 * C) 8 = t2_heldTo_v (fc (18 + 4 * C) 8 - fc 4 12) (0 : Int32) (fc (18 + 4 * C) 0 * (3600 : Int32)) ∧ ∀ j : Nat, j ≠ 2 → j ≠ 3 → j ≠ 4 → j ≠ 8 → F (18 + 4 * C) j = fc (18 + 4 * C) j) ∧ (¬ (C < k ∧ t2_bt b C = true) → F (18 + 4 * C) = fc (18 + 4 * C))) ∧
  F 1 13 = fc 1 13 + t2_sb b (fun C => t2_min_v (fc 4 12) (fc (18 + 4 * C) 2)) k ∧ F 1 11 = fc 1 11 + t2_sb b (fun _ => (3 : Int32)) k ∧ F 1 16 = b ∧ (∀ j : Nat, j ≠ 11 → j ≠ 13 → j ≠ 16 → F 1 j = fc 1 j) ∧ F 4 = fc 4
theorem c0_GI_step {b : Int32} {k : Nat} (hn : n ≤ 16) (hk : k < n) (h : c0_GI fc F b n k) : c0_GI fc (c0_shuntCells_b95_m F a above k) b n (k + 1) := by
  obtain ⟨h1, h2, h3, h4, h5, h6⟩ := h
  have hF := (h1 k hk).2 (fun q => absurd q.1 (Nat.lt_irrefl k))
  unfold c0_shuntCells_b95_m
  rw [h4]
  by_cases hb : t2_bt b k = false
  · rw [if_pos ((t2_bit0 (by omega)).mpr hb)]
    refine ⟨fun C hC => ?_, ?_, ?_, h4, h5, h6⟩
    · by_cases e : C = k
      · subst e
        exact ⟨fun q => absurd (q.2.symm.trans hb) (by decide), fun _ => hF⟩
      · have := h1 C hC
        refine ⟨fun q => this.1 ⟨by omega, q.2⟩, fun q => this.2 (fun r => q ⟨by omega, r.2⟩)⟩
    · rw [h2]
      show _ = _ + (_ + (if t2_bt b k = true then _ else 0))
      rw [if_neg (by rw [hb]; decide), Int32.add_zero]
    · rw [h3]
      show _ = _ + (_ + (if t2_bt b k = true then _ else 0))
      rw [if_neg (by rw [hb]; decide), Int32.add_zero]
  · have hb1 : t2_bt b k = true := by
      cases e : t2_bt b k
      · exact absurd e hb
      · rfl
    rw [if_neg (fun q => hb ((t2_bit0 (by omega)).mp q))]
    obtain ⟨g2, g3, g4, g8, go⟩ := c0_gs (f := F) (i := k) (x := F 4 12)
    have gp : ∀ p : Nat, p ≠ 18 + 4 * k → c0_giveShunt_m F k (F 4 12) p = F p := fun p hp => c0_giveShunt_fr (p := p) (i := k) hp
    have gv : c0_giveShunt_v F k (F 4 12) = t2_min_v (fc 4 12) (fc (18 + 4 * k) 2) := by
      unfold c0_giveShunt_v
      rw [h6, hF]
    refine ⟨fun C hC => ?_, ?_, ?_, ?_, fun j j11 j13 j16 => ?_, ?_⟩
    · rw [fl_row_ne (by omega)]
      by_cases e : C = k
      · subst e
        refine ⟨fun _ => ⟨?_, ?_, g4, ?_, fun j a2 a3 a4 a8 => ?_⟩, fun q => absurd ⟨Nat.lt_succ_self C, hb1⟩ q⟩
        · rw [g2, h6, hF]
        · rw [g3, hF]
        · rw [g8, h6, hF]
        · rw [go j a2 a3 a4 a8, hF]
      · rw [gp (18 + 4 * C) (by omega)]
        have := h1 C hC
        exact ⟨fun q => this.1 ⟨by omega, q.2⟩, fun q => this.2 (fun r => q ⟨by omega, r.2⟩)⟩
    · rw [fl_row_self, upd_ne (by decide), upd_self, gv, h2]
      show _ = _ + (_ + (if t2_bt b k = true then _ else 0))
      rw [if_pos hb1, Int32.add_assoc]
    · rw [fl_row_self, upd_self, h3]
      show _ = _ + (_ + (if t2_bt b k = true then _ else 0))
      rw [if_pos hb1, Int32.add_assoc]
    · rw [fl_row_self, upd_ne (by decide), upd_ne (by decide), gp 1 (by omega), h4]
    · rw [fl_row_self, upd_ne j11, upd_ne j13, gp 1 (by omega), h5 j j11 j13 j16]
    · rw [fl_row_ne (by decide), gp 4 (by omega), h6]
end C0SHUN
