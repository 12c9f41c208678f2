/-! ===== block 0: what is kept of a second: trace, greatest, least, turns ===== -/
section C0KEPT
variable {fc fr f g F G A B : t2_F} {C n k : Nat} {c x y z : Int32}
def c0_Tr (fc fr : t2_F) : Prop := fc 16 0 = (32 : Int32) ∧ (0 ≤ (fc 16 2).toInt ∧ (fc 16 2).toInt ≤ 31) ∧ fc 16 3 = fr 280 21 ∧ (0 ≤ (fr 280 21).toInt ∧ (fr 280 21).toInt ≤ 32) ∧ ∀ i : Nat, (i : Int) < (fr 280 21).toInt → fc 17 (t2_pl 32 (fc 16 2).toInt.toNat i * 3) = fr 280 (215 + 3 * i) ∧ fc 17 (t2_pl 32 (fc 16 2).toInt.toNat i * 3 + 1) = fr 280 (215 + 3 * i + 1)
theorem c0_tplace {n : Nat} {x : Int32} (h0 : f 16 0 = (32 : Int32)) (hF : 0 ≤ (f 16 2).toInt ∧ (f 16 2).toInt ≤ 31) (hx : x.toInt = n) (hn : n ≤ 32) : (c0_tplace_v f x).toInt = (t2_pl 32 (f 16 2).toInt.toNat n : Nat) := by
  have c32 : (32 : Int32).toInt = 32 := by decide +kernel
  have e : (f 16 2 + x).toInt = (f 16 2).toInt + n := by rw [at_add32] <;> omega
  unfold c0_tplace_v c0_tplace_j12_0 t2_pl
  rw [h0]
  by_cases h : (f 16 2 + x).toInt < (32 : Int32).toInt
  · rw [if_pos h, if_pos (by omega)]
    omega
  · rw [if_neg h, if_neg (by omega), at_sub32] <;> omega
theorem c0_tr_add (h : c0_Tr fc fr) (hx : fr 280 5 = x) (hy : r_pack_v fr = y) : c0_Tr (c0_tadd_m fc x y z) (r_goKept_f117 fr 0) := by
  obtain ⟨h0, hF, h3, hn, hr⟩ := h
  have c32 : (32 : Int32).toInt = 32 := by decide +kernel
  have c1 : (1 : Int32).toInt = 1 := by decide +kernel
  generalize hnn : (fr 280 21).toInt.toNat = n at *
  have en : (fr 280 21).toInt = (n : Int) := by omega
  generalize hFF : (fc 16 2).toInt.toNat = Fi at *
  have pn := c0_tplace (f := fc) (x := fc 16 3) (n := n) h0 hF (by rw [h3]; exact en) (by omega)
  rw [hFF] at pn
  have pnn : (c0_tplace_v fc (fc 16 3)).toInt.toNat = t2_pl 32 Fi n := by omega
  have lF : Fi < 32 := by omega
  by_cases hl : n < 32
  · obtain ⟨w20, wa, wb, wo⟩ := r_kp_lt (f := fr) en hl
    have hlt : (fc 16 3).toInt < (fc 16 0).toInt := by rw [h3, h0]; omega
    have k0 : c0_tadd_m fc x y z 16 0 = fc 16 0 := by
      unfold c0_tadd_m
      rw [fl_row_self, upd_ne (by decide), upd_ne (by decide)]
    have k2 : c0_tadd_m fc x y z 16 2 = fc 16 2 := by
      unfold c0_tadd_m c0_tadd_j48_1
      rw [fl_row_self, upd_self, if_pos hlt]
    have k3 : c0_tadd_m fc x y z 16 3 = fc 16 3 + (1 : Int32) := by
      unfold c0_tadd_m c0_tadd_j48_0
      rw [fl_row_self, upd_ne (by decide), upd_self, if_pos hlt]
    have kr : c0_tadd_m fc x y z 17 = upd (upd (upd (fc 17) (t2_pl 32 Fi n * 3) x) (t2_pl 32 Fi n * 3 + 1) y) (t2_pl 32 Fi n * 3 + 2) z := by
      unfold c0_tadd_m
      rw [fl_row_ne (by decide), fl_row_self, pnn]
    refine ⟨by rw [k0, h0], by rw [k2]; exact hF, ?_, by omega, fun i hi => ?_⟩
    · rw [k3, h3]
      apply Int32.toInt.inj
      rw [w20, at_add32] <;> omega
    · rw [k2, hFF, kr]
      by_cases e : i = n
      · subst e
        rw [wa, wb, hx, hy, upd_ne (by omega), upd_ne (by omega), upd_self, upd_ne (by omega), upd_self]
        exact ⟨rfl, rfl⟩
      · have hne := t2_pl_ne (m := 32) (F := Fi) (i := i) (j := n) lF (by omega) hl e
        obtain ⟨r1, r2⟩ := hr i (by omega)
        have w1 := wo (3 * i) (by omega)
        have w2 := wo (3 * i + 1) (by omega)
        rw [w1, show 215 + 3 * i + 1 = 215 + (3 * i + 1) by omega, w2, upd_ne (by omega), upd_ne (by omega), upd_ne (by omega), upd_ne (by omega), upd_ne (by omega), upd_ne (by omega)]
        exact ⟨r1, r2⟩
  · have e32 : n = 32 := by omega
    subst e32
    obtain ⟨w20, wa, wb, wo⟩ := r_kp_32 (f := fr) en
    rw [t2_pl_m lF] at pnn
    have hlt : ¬ (fc 16 3).toInt < (fc 16 0).toInt := by rw [h3, h0]; omega
    have k0 : c0_tadd_m fc x y z 16 0 = fc 16 0 := by
      unfold c0_tadd_m
      rw [fl_row_self, upd_ne (by decide), upd_ne (by decide)]
    have kr : c0_tadd_m fc x y z 17 = upd (upd (upd (fc 17) (Fi * 3) x) (Fi * 3 + 1) y) (Fi * 3 + 2) z := by
      unfold c0_tadd_m
      rw [fl_row_ne (by decide), fl_row_self, pnn]
    have k3 : c0_tadd_m fc x y z 16 3 = fc 16 3 := by
      unfold c0_tadd_m c0_tadd_j48_0
      rw [fl_row_self, upd_ne (by decide), upd_self, if_neg hlt]
    have p1 := c0_tplace (f := fl_row fc 17 (upd (upd (upd (fc 17) (Fi * 3) x) (Fi * 3 + 1) y) (Fi * 3 + 2) z)) (x := (1 : Int32)) (n := 1) (by rw [fl_row_ne (by decide)]; exact h0) (by rw [fl_row_ne (by decide)]; exact hF) c1 (by decide)
    rw [fl_row_ne (by decide), hFF] at p1
    have k2 : (c0_tadd_m fc x y z 16 2).toInt = (t2_pl 32 Fi 1 : Nat) := by
      unfold c0_tadd_m c0_tadd_j48_1
      rw [fl_row_self, upd_self, if_neg hlt, pnn, p1]
    have l1 := t2_pl_lt (m := 32) (F := Fi) (i := 1) lF (by decide)
    refine ⟨by rw [k0, h0], by omega, ?_, by omega, fun i hi => ?_⟩
    · rw [k3, h3]
      apply Int32.toInt.inj
      rw [w20, en]
      rfl
    · rw [k2, Int.toNat_natCast, kr]
      by_cases e : i = 31
      · subst e
        have e31 := t2_pl_e (m := 32) (F := Fi) lF (by decide)
        rw [show 32 - 1 = 31 from rfl] at e31
        rw [e31, wa, wb, hx, hy, upd_ne (by omega), upd_ne (by omega), upd_self, upd_ne (by omega), upd_self]
        exact ⟨rfl, rfl⟩
      · rw [t2_pl_s lF (by omega)]
        have hne := t2_pl_n0 (m := 32) (F := Fi) (i := i) lF (by omega)
        obtain ⟨r1, r2⟩ := hr (i + 1) (by omega)
        have w1 := wo (3 * i) (by omega)
        have w2 := wo (3 * i + 1) (by omega)
        rw [w1, show 215 + 3 * i + 1 = 215 + (3 * i + 1) by omega, w2, upd_ne (by omega), upd_ne (by omega), upd_ne (by omega), upd_ne (by omega), upd_ne (by omega), upd_ne (by omega)]
        exact ⟨r1, r2⟩
theorem c0_Tr.congr {fc' fr' : t2_F} (h : c0_Tr fc fr) (e1 : fc' 16 = fc 16) (e2 : fc' 17 = fc 17) (e3 : ∀ w : Nat, (w = 21 ∨ (215 ≤ w ∧ w < 311)) → fr' 280 w = fr 280 w) : c0_Tr fc' fr' := by
  obtain ⟨h0, hF, h3, hn, hr⟩ := h
  unfold c0_Tr
  rw [e1, e2, e3 21 (Or.inl rfl)]
  exact ⟨h0, hF, h3, hn, fun i hi => by rw [e3 _ (by omega), e3 _ (by omega)]; exact hr i hi⟩
/-- the greatest and the least VOLTS so far -/
def c0_Rh (fc fr : t2_F) (C : Nat) : Prop := (fc (18 + 4 * C) 10 = 0 ∧ fr 280 (444 + 61 * C + 7) = (-2000000000 : Int32) ∧ fr 280 (444 + 61 * C + 8) = (2000000000 : Int32)) ∨ (fc (18 + 4 * C) 10 = 1 ∧ fc (18 + 4 * C) 12 = fr 280 (444 + 61 * C + 7) ∧ fc (18 + 4 * C) 13 = fr 280 (444 + 61 * C + 8))
theorem c0_keep_cell (h : c0_TI A B C) (hv : c0_voltsAt_v A C x = r_voltsOf_v B (Int32.ofNat C) C) (hp : A (18 + 4 * C) 3 = r_partOf_v B (Int32.ofNat C) C) (hpr : 0 ≤ (A (18 + 4 * C) 3).toInt ∧ (A (18 + 4 * C) 3).toInt ≤ 1000) (hk : t2_ck B C) (hvb : -2000000000 < (r_voltsOf_v B (Int32.ofNat C) C).toInt ∧ (r_voltsOf_v B (Int32.ofNat C) C).toInt < 2000000000) (hh : c0_Rh A B C) :
    c0_TI (c0_keepTrack_m A C x) (r_goKept_b117_m B z C) C ∧ c0_keepTrack_m A C x (18 + 4 * C) 10 = 1 ∧ c0_keepTrack_m A C x (18 + 4 * C) 12 = r_goKept_b117_m B z C 280 (444 + 61 * C + 7) ∧ c0_keepTrack_m A C x (18 + 4 * C) 13 = r_goKept_b117_m B z C 280 (444 + 61 * C + 8) ∧ (∀ j : Nat, j ≠ 10 → j ≠ 12 → j ≠ 13 → c0_keepTrack_m A C x (18 + 4 * C) j = A (18 + 4 * C) j) ∧ (∀ w : Nat, w ≠ 7 → w ≠ 8 → (w < 10 ∨ (10 < w ∧ w < 17) ∨ w = 60) → r_goKept_b117_m B z C 280 (444 + 61 * C + w) = B 280 (444 + 61 * C + w)) := by
  have cn : (-2000000000 : Int32).toInt = -2000000000 := by decide +kernel
  have cp : (2000000000 : Int32).toInt = 2000000000 := by decide +kernel
  have c1 : (1 : Int32).toInt = 1 := by decide +kernel
  have c0 : (0 : Int32).toInt = 0 := rfl
  have e141 : c0_keepTrack_j11_0 A C x = r_goKept_b117_j141_0 B z C ∧ c0_keepTrack_j34_0 A C x = r_goKept_b117_j160_0 B z C := by
    unfold c0_keepTrack_j11_0 c0_keepTrack_j34_0 r_goKept_b117_j141_0 r_goKept_b117_j160_0
    rw [hv]
    rcases hh with ⟨a, b, d⟩ | ⟨a, b, d⟩
    · rw [a, b, d, if_pos c0, if_pos c0, if_pos (by omega), if_pos (by omega)]
      exact ⟨rfl, rfl⟩
    · rw [a, b, d, if_neg (show ¬ (1 : Int32).toInt = 0 by omega), if_neg (show ¬ (1 : Int32).toInt = 0 by omega)]
      exact ⟨rfl, rfl⟩
  let A' : t2_F := fl_row A (18 + 4 * C) (upd (upd (upd (A (18 + 4 * C)) 12 (c0_keepTrack_j11_0 A C x)) 13 (c0_keepTrack_j34_0 A C x)) 10 (1 : Int32))
  let B' : t2_F := fl_row B 280 (upd (upd (B 280) (444 + 61 * C + 7) (r_goKept_b117_j141_0 B z C)) (444 + 61 * C + 8) (r_goKept_b117_j160_0 B z C))
  have bw : ∀ w : Nat, w ≠ 444 + 61 * C + 7 → w ≠ 444 + 61 * C + 8 → B' 280 w = B 280 w := fun w h7 h8 => by
    show fl_row B 280 _ 280 w = _
    rw [fl_row_self, upd_ne h8, upd_ne h7]
  have ti : c0_TI A' B' C := h.congr (fl_row_ne (by omega)) (fl_row_ne (by omega)) (fl_row_ne (by omega)) (fun w h1 h2 _ _ _ _ _ _ => bw _ (by omega) (by omega))
  have pe : r_partOf_v B' (Int32.ofNat C) C = r_partOf_v B (Int32.ofNat C) C := by
    unfold r_partOf_v
    rw [bw _ (by omega) (by omega), bw _ (by omega) (by omega)]
  have fo := c0_follow_eq (c := Int32.ofNat C) (x := A (18 + 4 * C) 3) ti (by rw [pe]; exact hp) hpr
  have ek : c0_keepTrack_m A C x = c0_follow_m A' C (A (18 + 4 * C) 3) := rfl
  have eb : r_goKept_b117_m B z C = r_goTurn_m B' (Int32.ofNat C) C := rfl
  have row : c0_keepTrack_m A C x (18 + 4 * C) = upd (upd (upd (A (18 + 4 * C)) 12 (c0_keepTrack_j11_0 A C x)) 13 (c0_keepTrack_j34_0 A C x)) 10 (1 : Int32) := by
    rw [ek, c0_follow_fr (by omega) (by omega) (by omega)]
    exact fl_row_self _ _ _
  obtain ⟨al, -⟩ := id (⟨ti.2.2.2, True.intro⟩ : r_alt B' C ∧ True)
  have ckB : t2_ck B' C := by
    unfold t2_ck
    rw [bw _ (by omega) (by omega), bw _ (by omega) (by omega)]
    exact hk
  have gw : ∀ w : Nat, (w < 444 + 61 * C + 10 ∨ (444 + 61 * C + 10 < w ∧ w < 444 + 61 * C + 17) ∨ 444 + 61 * C + 60 ≤ w) → r_goKept_b117_m B z C 280 w = B' 280 w := fun w hw => by
    rw [eb]
    exact r_goTurn_w al.1 al.2.1 ckB hw
  refine ⟨by rw [ek, eb]; exact fo, ?_, ?_, ?_, fun j j10 j12 j13 => ?_, fun w w7 w8 hw => ?_⟩
  · rw [row, upd_self]
  · rw [row, upd_ne (by decide), upd_ne (by decide), upd_self, gw _ (by omega), e141.1]
    show _ = fl_row B 280 _ 280 _
    rw [fl_row_self, upd_ne (by omega), upd_self]
  · rw [row, upd_ne (by decide), upd_self, gw _ (by omega), e141.2]
    show _ = fl_row B 280 _ 280 _
    rw [fl_row_self, upd_self]
  · rw [row, upd_ne j10, upd_ne j13, upd_ne j12]
  · rw [gw _ (by omega), bw _ (by omega) (by omega)]
/-- class: a cell's rows behind k cells -/
theorem c0_f25_in {p : Nat} (hp : p = 18 + 4 * C ∨ p = 19 + 4 * C ∨ p = 20 + 4 * C ∨ p = 21 + 4 * C) : ∀ {k : Nat}, C < k → c0_sKeep_f25 f k p = c0_keepTrack_m (c0_sKeep_f25 f C) C (c0_sKeep_f25 f C 1 9) p := by
  intro k
  induction k with
  | zero => intro h; exact absurd h (Nat.not_lt_zero _)
  | succ k ih =>
    intro h
    by_cases e : C = k
    · subst e
      rfl
    · exact (c0_sKeep_b25_fr (f := c0_sKeep_f25 f k) (k := k) (p := p) (by omega) (by omega) (by omega) (by omega)).trans (ih (by omega))
theorem c0_f25_me {p : Nat} (hp : p = 18 + 4 * C ∨ p = 19 + 4 * C ∨ p = 20 + 4 * C ∨ p = 21 + 4 * C) : c0_sKeep_f25 f C p = f p := by
  rw [c0_sKeep_f25_fr (k := C) (fun j hj => by omega) (fun j hj => by omega) (fun j hj => by omega) (fun j hj => by omega), c0_tadd_fr (by omega) (by omega)]
theorem c0_f25_p {p : Nat} (hp : p < 18) (h16 : p ≠ 16) (h17 : p ≠ 17) : c0_sKeep_f25 f k p = f p := by
  rw [c0_sKeep_f25_fr (k := k) (fun j hj => by omega) (fun j hj => by omega) (fun j hj => by omega) (fun j hj => by omega), c0_tadd_fr (by omega) (by omega)]
theorem c0_f25_t {p : Nat} (hp : p = 16 ∨ p = 17) : c0_sKeep_f25 f k p = c0_sKeep_f25 f 0 p := by
  rw [c0_sKeep_f25_fr (k := k) (fun j hj => by omega) (fun j hj => by omega) (fun j hj => by omega) (fun j hj => by omega)]
  rfl
/-- behind (7): what is kept -/
theorem c0_kept_eq (hn1 : (fc 1 5).toInt = n) (hn2 : (fr 280 2).toInt = n) (hn16 : n ≤ 16) (hx : fc 1 9 = fr 280 5) (htr : c0_Tr fc fr) (hpk : c0_packAt_v fc (fc 1 9) = r_pack_v fr) (h : ∀ C : Nat, C < n → c0_TI fc fr C ∧ c0_voltsAt_v fc C (fr 280 5) = r_voltsOf_v fr (Int32.ofNat C) C ∧ fc (18 + 4 * C) 3 = r_partOf_v fr (Int32.ofNat C) C ∧ t2_ck fr C ∧ (-2000000000 < (r_voltsOf_v fr (Int32.ofNat C) C).toInt ∧ (r_voltsOf_v fr (Int32.ofNat C) C).toInt < 2000000000) ∧ c0_Rh fc fr C) :
    c0_Tr (c0_sKeep_m fc) (r_goKept_m fr) ∧ ∀ C : Nat, C < n → c0_TI (c0_sKeep_m fc) (r_goKept_m fr) C ∧ (c0_sKeep_m fc (18 + 4 * C) 10 = 1 ∧ c0_sKeep_m fc (18 + 4 * C) 12 = r_goKept_m fr 280 (444 + 61 * C + 7) ∧ c0_sKeep_m fc (18 + 4 * C) 13 = r_goKept_m fr 280 (444 + 61 * C + 8)) ∧ (∀ j : Nat, j ≠ 10 → j ≠ 12 → j ≠ 13 → c0_sKeep_m fc (18 + 4 * C) j = fc (18 + 4 * C) j) ∧ (∀ w : Nat, w ≠ 7 → w ≠ 8 → (w < 10 ∨ (10 < w ∧ w < 17) ∨ w = 60) → r_goKept_m fr 280 (444 + 61 * C + w) = fr 280 (444 + 61 * C + w)) := by
  have hnn : (fc 1 5).toInt.toNat = n := by omega
  have hgn : (fr 280 2).toInt.toNat = n := by omega
  have ht21 := htr.2.2.2.1
  have hn' : 0 ≤ (fr 280 2).toInt ∧ (fr 280 2).toInt ≤ 16 := by omega
  have hk' : ∀ C : Nat, (C : Int) < (fr 280 2).toInt → t2_ck fr C := fun C hC => (h C (by omega)).2.2.2.1
  have hkt' : ∀ C : Nat, (C : Int) < (fr 280 2).toInt → (1 ≤ (fr 280 (444 + 61 * C + 10)).toInt ∧ (fr 280 (444 + 61 * C + 10)).toInt ≤ 32) ∧ r_tv fr C := fun C hC => ⟨(h C (by omega)).1.2.2.2.1, (h C (by omega)).1.2.2.2.2.1⟩
  have W : ∀ k : Nat, k ≤ n → ∀ w : Nat, (w < 444 ∨ 444 + 61 * k ≤ w) → w ≠ 21 → (w < 215 ∨ 311 ≤ w) → r_goKept_f117 fr k 280 w = fr 280 w := fun k hk w a b d => r_goKept_f117_w hn' hk' ht21 hkt' (by omega) a ⟨b, d⟩
  have inn : ∀ (C k : Nat), C < k → k ≤ n → ∀ w : Nat, w < 61 → r_goKept_f117 fr k 280 (444 + 61 * C + w) = r_goKept_b117_m (r_goKept_f117 fr C) ((215 : Int32) + ((3 : Int32) * ((r_goKept_m9 fr) 280 21))) C 280 (444 + 61 * C + w) := by
    intro C k
    induction k with
    | zero => intro h; exact absurd h (Nat.not_lt_zero _)
    | succ k ih =>
      intro hCk hkn w hw
      by_cases e : C = k
      · subst e
        rfl
      · have hkk := hkt' k (by omega)
        have s : ∀ q : Nat, 444 + 61 * k ≤ q → r_goKept_f117 fr k 280 q = fr 280 q := fun q hq => W k (by omega) q (Or.inr hq) (by omega) (by omega)
        refine (r_goKept_b117_w ?_ ?_ ?_ (by omega)).trans (ih (by omega) (by omega) w hw)
        · rw [s _ (by omega)]
          exact hkk.1
        · intro t ht
          rw [s _ (by omega)]
          exact hkk.2 t ht
        · unfold t2_ck
          rw [s _ (by omega), s _ (by omega)]
          exact hk' k (by omega)
  have mF : c0_sKeep_m fc = c0_sKeep_f25 fc n := by unfold c0_sKeep_m; rw [hnn]
  have mG : r_goKept_m fr = r_goKept_f117 fr n := by unfold r_goKept_m; rw [hgn]
  rw [mF, mG]
  refine ⟨?_, fun C hC => ?_⟩
  · have t0 : c0_Tr (c0_sKeep_f25 fc 0) (r_goKept_f117 fr 0) := c0_tr_add htr hx.symm hpk.symm
    refine t0.congr (c0_f25_t (Or.inl rfl)) (c0_f25_t (Or.inr rfl)) (fun w hw => ?_)
    have hs : ∀ k : Nat, k ≤ n → r_goKept_f117 fr k 280 w = r_goKept_f117 fr 0 280 w := by
      intro k
      induction k with
      | zero => intro _; rfl
      | succ k ih =>
        intro hk
        have hkk := hkt' k (by omega)
        have s : ∀ q : Nat, 444 + 61 * k ≤ q → r_goKept_f117 fr k 280 q = fr 280 q := fun q hq => W k (by omega) q (Or.inr hq) (by omega) (by omega)
        refine (r_goKept_b117_w ?_ ?_ ?_ (by omega)).trans (ih (by omega))
        · rw [s _ (by omega)]
          exact hkk.1
        · intro t ht
          rw [s _ (by omega)]
          exact hkk.2 t ht
        · unfold t2_ck
          rw [s _ (by omega), s _ (by omega)]
          exact hk' k (by omega)
    exact hs n (Nat.le_refl n)
  · obtain ⟨ti, hv, hp, hck, hvb, hh⟩ := h C hC
    have aC : ∀ p : Nat, (p = 18 + 4 * C ∨ p = 19 + 4 * C ∨ p = 20 + 4 * C ∨ p = 21 + 4 * C) → c0_sKeep_f25 fc C p = fc p := fun p hp => c0_f25_me hp
    have a9 : c0_sKeep_f25 fc C 1 9 = fr 280 5 := by rw [c0_f25_p (by decide) (by decide) (by decide), hx]
    have bC : ∀ w : Nat, w < 61 → r_goKept_f117 fr C 280 (444 + 61 * C + w) = fr 280 (444 + 61 * C + w) := fun w hw => W C (by omega) _ (Or.inr (by omega)) (by omega) (by omega)
    have b5 : r_goKept_f117 fr C 280 5 = fr 280 5 := W C (by omega) 5 (Or.inl (by decide)) (by decide) (Or.inl (by decide))
    have tiC : c0_TI (c0_sKeep_f25 fc C) (r_goKept_f117 fr C) C := ti.congr (aC _ (by omega)) (aC _ (by omega)) (aC _ (by omega)) (fun w h1 h2 _ _ _ _ _ _ => bC w (by omega))
    have vC : r_voltsOf_v (r_goKept_f117 fr C) (Int32.ofNat C) C = r_voltsOf_v fr (Int32.ofNat C) C := r_volts_c b5 (bC 0 (by decide)) (bC 1 (by decide)) (bC 2 (by decide)) (bC 9 (by decide))
    have pC : r_partOf_v (r_goKept_f117 fr C) (Int32.ofNat C) C = r_partOf_v fr (Int32.ofNat C) C := by
      unfold r_partOf_v
      rw [bC 0 (by decide), bC 1 (by decide)]
    have hpr : 0 ≤ (fc (18 + 4 * C) 3).toInt ∧ (fc (18 + 4 * C) 3).toInt ≤ 1000 := by
      rw [hp]
      exact t2_ckp hck
    obtain ⟨k1, k2, k3, k4, k5, k6⟩ := c0_keep_cell (z := (215 : Int32) + ((3 : Int32) * ((r_goKept_m9 fr) 280 21))) (x := fr 280 5) tiC (by rw [vC, c0_volts_row (aC _ (by omega))]; exact hv) (by rw [pC, aC _ (by omega)]; exact hp) (by rw [aC _ (by omega)]; exact hpr) (c0_ck_congr hck (bC 0 (by decide)) (bC 1 (by decide))) (by rw [vC]; exact hvb) (by unfold c0_Rh; rw [aC _ (by omega), bC 7 (by decide), bC 8 (by decide)]; exact hh)
    have eA : ∀ p : Nat, (p = 18 + 4 * C ∨ p = 19 + 4 * C ∨ p = 20 + 4 * C ∨ p = 21 + 4 * C) → c0_sKeep_f25 fc n p = c0_keepTrack_m (c0_sKeep_f25 fc C) C (fr 280 5) p := fun p hp => by rw [c0_f25_in hp hC, a9]
    have eB := inn C n hC (Nat.le_refl n)
    refine ⟨k1.congr (eA _ (by omega)) (eA _ (by omega)) (eA _ (by omega)) (fun w h1 h2 _ _ _ _ _ _ => eB w (by omega)), ⟨?_, ?_, ?_⟩, fun j j1 j2 j3 => ?_, fun w w7 w8 hw => ?_⟩
    · rw [eA _ (by omega), k2]
    · rw [eA _ (by omega), k3, eB 7 (by decide)]
    · rw [eA _ (by omega), k4, eB 8 (by decide)]
    · rw [eA _ (by omega), k5 j j1 j2 j3, aC _ (by omega)]
    · rw [eB w (by omega), k6 w w7 w8 hw, bC w (by omega)]
end C0KEPT
