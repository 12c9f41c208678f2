/-! 94.20.kept.lean.txt -/
section
/-! ===== block 0: what is kept of a second: trace, greatest, least, turns ===== -/
section C0KEPT
variable {fc fr f g F G A B : t2_F} {C n k : Nat} {c x y z : Int32}
def c0_Tr (fc fr : t2_F) : Prop := fc 16 0 = (32 : Int32) ∧ (0 ≤ (fc 16 2).toInt ∧ (fc 16 2).toInt ≤ 31) ∧ fc 16 3 = fr 280 21 ∧ (0 ≤ (fr 280 21).toInt ∧ (fr 280 21).toInt ≤ 32) ∧ ∀ i : Nat, (i : Int) < (fr 280 21).toInt → fc 17 (t2_pl 32 (fc 16 2).toInt.toNat i * 3) = fr 280 (215 + 3 * i) ∧ fc 17 (t2_pl 32 (fc 16 2).toInt.toNat i * 3 + 1) = fr 280 (215 + 3 * i + 1)
theorem c0_tplace {n : Nat} {x : Int32} (h0 : f 16 0 = (32 : Int32)) (hF : 0 ≤ (f 16 2).toInt ∧ (f 16 2).toInt ≤ 31) (hx : x.toInt = n) (hn : n ≤ 32) : (c0_tplace_v f x).toInt = (t2_pl 32 (f 16 2).toInt.toNat n : Nat) := by
  have c32 : (32 : Int32).toInt = 32 := by decide +kernel
  have e : (f 16 2 + x).toInt = (f 16 2).toInt + n := by rw [at_add32] <;> omega
  unfold c0_tplace_v c0_tplace_j12_0 t2_pl
  rw [h0]
  by_cases h : (f 16 2 + x).toInt < (32 : Int32).toInt
  · rw [if_pos h, if_pos (by omega)]
    omega
  · rw [if_neg h, if_neg (by omega), at_sub32] <;> omega
theorem c0_tr_add (h : c0_Tr fc fr) (hx : fr 280 5 = x) (hy : r_pack_v fr = y) : c0_Tr (c0_tadd_m fc x y z) (r_goKept_f117 fr 0) := by
  obtain ⟨h0, hF, h3, hn, hr⟩ := h
  have c32 : (32 : Int32).toInt = 32 := by decide +kernel
  have c1 : (1 : Int32).toInt = 1 := by decide +kernel
  generalize hnn : (fr 280 21).toInt.toNat = n at *
  have en : (fr 280 21).toInt = (n : Int) := by omega
  generalize hFF : (fc 16 2).toInt.toNat = Fi at *
  have pn := c0_tplace (f := fc) (x := fc 16 3) (n := n) h0 hF (by rw [h3]; exact en) (by omega)
  rw [hFF] at pn
  have pnn : (c0_tplace_v fc (fc 16 3)).toInt.toNat = t2_pl 32 Fi n := by omega
  have lF : Fi < 32 := by omega
  by_cases hl : n < 32
  · obtain ⟨w20, wa, wb, wo⟩ := r_kp_lt (f := fr) en hl
    have hlt : (fc 16 3).toInt < (fc 16 0).toInt := by rw [h3, h0]; omega
    have k0 : c0_tadd_m fc x y z 16 0 = fc 16 0 := by
      unfold c0_tadd_m
      rw [fl_row_self, upd_ne (by decide), upd_ne (by decide)]
    have k2 : c0_tadd_m fc x y z 16 2 = fc 16 2 := by
      unfold c0_tadd_m c0_tadd_j48_1
      rw [fl_row_self, upd_self, if_pos hlt]
    have k3 : c0_tadd_m fc x y z 16 3 = fc 16 3 + (1 : Int32) := by
      unfold c0_tadd_m c0_tadd_j48_0
      rw [fl_row_self, upd_ne (by decide), upd_self, if_pos hlt]
    have kr : c0_tadd_m fc x y z 17 = upd (upd (upd (fc 17) (t2_pl 32 Fi n * 3) x) (t2_pl 32 Fi n * 3 + 1) y) (t2_pl 32 Fi n * 3 + 2) z := by
      unfold c0_tadd_m
      rw [fl_row_ne (by decide), fl_row_self, pnn]
    refine ⟨by rw [k0, h0], by rw [k2]; exact hF, ?_, by omega, fun i hi => ?_⟩
    · rw [k3, h3]
      apply Int32.toInt.inj
      rw [w20, at_add32] <;> omega
    · rw [k2, hFF, kr]
      by_cases e : i = n
      · subst e
        rw [wa, wb, hx, hy, upd_ne (by omega), upd_ne (by omega), upd_self, upd_ne (by omega), upd_self]
        exact ⟨rfl, rfl⟩
      · have hne := t2_pl_ne (m := 32) (F := Fi) (i := i) (j := n) lF (by omega) hl e
        obtain ⟨r1, r2⟩ := hr i (by omega)
        have w1 := wo (3 * i) (by omega)
        have w2 := wo (3 * i + 1) (by omega)
        rw [w1, show 215 + 3 * i + 1 = 215 + (3 * i + 1) by omega, w2, upd_ne (by omega), upd_ne (by omega), upd_ne (by omega), upd_ne (by omega), upd_ne (by omega), upd_ne (by omega)]
        exact ⟨r1, r2⟩
  · have e32 : n = 32 := by omega
    subst e32
    obtain ⟨w20, wa, wb, wo⟩ := r_kp_32 (f := fr) en
    rw [t2_pl_m lF] at pnn
    have hlt : ¬ (fc 16 3).toInt < (fc 16 0).toInt := by rw [h3, h0]; omega
    have k0 : c0_tadd_m fc x y z 16 0 = fc 16 0 := by
      unfold c0_tadd_m
      rw [fl_row_self, upd_ne (by decide), upd_ne (by decide)]
    have kr : c0_tadd_m fc x y z 17 = upd (upd (upd (fc 17) (Fi * 3) x) (Fi * 3 + 1) y) (Fi * 3 + 2) z := by
      unfold c0_tadd_m
      rw [fl_row_ne (by decide), fl_row_self, pnn]
    have k3 : c0_tadd_m fc x y z 16 3 = fc 16 3 := by
      unfold c0_tadd_m c0_tadd_j48_0
      rw [fl_row_self, upd_ne (by decide), upd_self, if_neg hlt]
    have p1 := c0_tplace (f := fl_row fc 17 (upd (upd (upd (fc 17) (Fi * 3) x) (Fi * 3 + 1) y) (Fi * 3 + 2) z)) (x := (1 : Int32)) (n := 1) (by rw [fl_row_ne (by decide)]; exact h0) (by rw [fl_row_ne (by decide)]; exact hF) c1 (by decide)
    rw [fl_row_ne (by decide), hFF] at p1
    have k2 : (c0_tadd_m fc x y z 16 2).toInt = (t2_pl 32 Fi 1 : Nat) := by
      unfold c0_tadd_m c0_tadd_j48_1
      rw [fl_row_self, upd_self, if_neg hlt, pnn, p1]
    have l1 := t2_pl_lt (m := 32) (F := Fi) (i := 1) lF (by decide)
    refine ⟨by rw [k0, h0], by omega, ?_, by omega, fun i hi => ?_⟩
    · rw [k3, h3]
      apply Int32.toInt.inj
      rw [w20, en]
      rfl
    · rw [k2, Int.toNat_natCast, kr]
      by_cases e : i = 31
      · subst e
        have e31 := t2_pl_e (m := 32) (F := Fi) lF (by decide)
        rw [show 32 - 1 = 31 from rfl] at e31
        rw [e31, wa, wb, hx, hy, upd_ne (by omega), upd_ne (by omega), upd_self, upd_ne (by omega), upd_self]
        exact ⟨rfl, rfl⟩
      · rw [t2_pl_s lF (by omega)]
        have hne := t2_pl_n0 (m := 32) (F := Fi) (i := i) lF (by omega)
        obtain ⟨r1, r2⟩ := hr (i + 1) (by omega)
        have w1 := wo (3 * i) (by omega)
        have w2 := wo (3 * i + 1) (by omega)
        rw [w1, show 215 + 3 * i + 1 = 215 + (3 * i + 1) by omega, w2, upd_ne (by omega), upd_ne (by omega), upd_ne (by omega), upd_ne (by omega), upd_ne (by omega), upd_ne (by omega)]
        exact ⟨r1, r2⟩
theorem c0_Tr.congr {fc' fr' : t2_F} (h : c0_Tr fc fr) (e1 : fc' 16 = fc 16) (e2 : fc' 17 = fc 17) (e3 : ∀ w : Nat, (w = 21 ∨ (215 ≤ w ∧ w < 311)) → fr' 280 w = fr 280 w) : c0_Tr fc' fr' := by
  obtain ⟨h0, hF, h3, hn, hr⟩ := h
  unfold c0_Tr
  rw [e1, e2, e3 21 (Or.inl rfl)]
  exact ⟨h0, hF, h3, hn, fun i hi => by rw [e3 _ (by omega), e3 _ (by omega)]; exact hr i hi⟩
/-- the greatest and the least VOLTS so far -/
def c0_Rh (fc fr : t2_F) (C : Nat) : Prop := (fc (18 + 4 * C) 10 = 0 ∧ fr 280 (444 + 61 * C + 7) = (-2000000000 : Int32) ∧ fr 280 (444 + 61 * C + 8) = (2000000000 : Int32)) ∨ (fc (18 + 4 * C) 10 = 1 ∧ fc (18 + 4 * C) 12 = fr 280 (444 + 61 * C + 7) ∧ fc (18 + 4 * C) 13 = fr 280 (444 + 61 * C + 8))
theorem c0_keep_cell (h : c0_TI A B C) (hv : c0_voltsAt_v A C x = r_voltsOf_v B (Int32.ofNat C) C) (hp : A (18 + 4 * C) 3 = r_partOf_v B (Int32.ofNat C) C) (hpr : 0 ≤ (A (18 + 4 * C) 3).toInt ∧ (A (18 + 4 * C) 3).toInt ≤ 1000) (hk : t2_ck B C) (hvb : -2000000000 < (r_voltsOf_v B (Int32.ofNat C) C).toInt ∧ (r_voltsOf_v B (Int32.ofNat C) C).toInt < 2000000000) (hh : c0_Rh A B C) :
    c0_TI (c0_keepTrack_m A C x) (r_goKept_b117_m B z C) C ∧ c0_keepTrack_m A C x (18 + 4 * C) 10 = 1 ∧ c0_keepTrack_m A C x (18 + 4 * C) 12 = r_goKept_b117_m B z C 280 (444 + 61 * C + 7) ∧ c0_keepTrack_m A C x (18 + 4 * C) 13 = r_goKept_b117_m B z C 280 (444 + 61 * C + 8) ∧ (∀ j : Nat, j ≠ 10 → j ≠ 12 → j ≠ 13 → c0_keepTrack_m A C x (18 + 4 * C) j = A (18 + 4 * C) j) ∧ (∀ w : Nat, w ≠ 7 → w ≠ 8 → (w < 10 ∨ (10 < w ∧ w < 17) ∨ w = 60) → r_goKept_b117_m B z C 280 (444 + 61 * C + w) = B 280 (444 + 61 * C + w)) := by
  have cn : (-2000000000 : Int32).toInt = -2000000000 := by decide +kernel
  have cp : (2000000000 : Int32).toInt = 2000000000 := by decide +kernel
  have c1 : (1 : Int32).toInt = 1 := by decide +kernel
  have c0 : (0 : Int32).toInt = 0 := rfl
  have e141 : c0_keepTrack_j11_0 A C x = r_goKept_b117_j141_0 B z C ∧ c0_keepTrack_j34_0 A C x = r_goKept_b117_j160_0 B z C := by
    unfold c0_keepTrack_j11_0 c0_keepTrack_j34_0 r_goKept_b117_j141_0 r_goKept_b117_j160_0
    rw [hv]
    rcases hh with ⟨a, b, d⟩ | ⟨a, b, d⟩
    · rw [a, b, d, if_pos c0, if_pos c0, if_pos (by omega), if_pos (by omega)]
      exact ⟨rfl, rfl⟩
    · rw [a, b, d, if_neg (show ¬ (1 : Int32).toInt = 0 by omega), if_neg (show ¬ (1 : Int32).toInt = 0 by omega)]
      exact ⟨rfl, rfl⟩
  let A' : t2_F := fl_row A (18 + 4 * C) (upd (upd (upd (A (18 + 4 * C)) 12 (c0_keepTrack_j11_0 A C x)) 13 (c0_keepTrack_j34_0 A C x)) 10 (1 : Int32))
  let B' : t2_F := fl_row B 280 (upd (upd (B 280) (444 + 61 * C + 7) (r_goKept_b117_j141_0 B z C)) (444 + 61 * C + 8) (r_goKept_b117_j160_0 B z C))
  have bw : ∀ w : Nat, w ≠ 444 + 61 * C + 7 → w ≠ 444 + 61 * C + 8 → B' 280 w = B 280 w := fun w h7 h8 => by
    show fl_row B 280 _ 280 w = _
    rw [fl_row_self, upd_ne h8, upd_ne h7]
  have ti : c0_TI A' B' C := h.congr (fl_row_ne (by omega)) (fl_row_ne (by omega)) (fl_row_ne (by omega)) (fun w h1 h2 _ _ _ _ _ _ => bw _ (by omega) (by omega))
  have pe : r_partOf_v B' (Int32.ofNat C) C = r_partOf_v B (Int32.ofNat C) C := by
    unfold r_partOf_v
    rw [bw _ (by omega) (by omega), bw _ (by omega) (by omega)]
  have fo := c0_follow_eq (c := Int32.ofNat C) (x := A (18 + 4 * C) 3) ti (by rw [pe]; exact hp) hpr
  have ek : c0_keepTrack_m A C x = c0_follow_m A' C (A (18 + 4 * C) 3) := rfl
  have eb : r_goKept_b117_m B z C = r_goTurn_m B' (Int32.ofNat C) C := rfl
  have row : c0_keepTrack_m A C x (18 + 4 * C) = upd (upd (upd (A (18 + 4 * C)) 12 (c0_keepTrack_j11_0 A C x)) 13 (c0_keepTrack_j34_0 A C x)) 10 (1 : Int32) := by
    rw [ek, c0_follow_fr (by omega) (by omega) (by omega)]
    exact fl_row_self _ _ _
  obtain ⟨al, -⟩ := id (⟨ti.2.2.2, True.intro⟩ : r_alt B' C ∧ True)
  have ckB : t2_ck B' C := by
    unfold t2_ck
    rw [bw _ (by omega) (by omega), bw _ (by omega) (by omega)]
    exact hk
  have gw : ∀ w : Nat, (w < 444 + 61 * C + 10 ∨ (444 + 61 * C + 10 < w ∧ w < 444 + 61 * C + 17) ∨ 444 + 61 * C + 60 ≤ w) → r_goKept_b117_m B z C 280 w = B' 280 w := fun w hw => by
    rw [eb]
    exact r_goTurn_w al.1 al.2.1 ckB hw
  refine ⟨by rw [ek, eb]; exact fo, ?_, ?_, ?_, fun j j10 j12 j13 => ?_, fun w w7 w8 hw => ?_⟩
  · rw [row, upd_self]
  · rw [row, upd_ne (by decide), upd_ne (by decide), upd_self, gw _ (by omega), e141.1]
    show _ = fl_row B 280 _ 280 _
    rw [fl_row_self, upd_ne (by omega), upd_self]
  · rw [row, upd_ne (by decide), upd_self, gw _ (by omega), e141.2]
    show _ = fl_row B 280 _ 280 _
    rw [fl_row_self, upd_self]
  · rw [row, upd_ne j10, upd_ne j13, upd_ne j12]
  · rw [gw _ (by omega), bw _ (by omega) (by omega)]
/-- class: a cell's rows behind k cells -/
theorem c0_f25_in {p : Nat} (hp : p = 18 + 4 * C ∨ p = 19 + 4 * C ∨ p = 20 + 4 * C ∨ p = 21 + 4 * C) : ∀ {k : Nat}, C < k → c0_sKeep_f25 f k p = c0_keepTrack_m (c0_sKeep_f25 f C) C (c0_sKeep_f25 f C 1 9) p := by
  intro k
  induction k with
  | zero => intro h; exact absurd h (Nat.not_lt_zero _)
  | succ k ih =>
    intro h
    by_cases e : C = k
    · subst e
      rfl
    · exact (c0_sKeep_b25_fr (f := c0_sKeep_f25 f k) (k := k) (p := p) (by omega) (by omega) (by omega) (by omega)).trans (ih (by omega))
theorem c0_f25_me {p : Nat} (hp : p = 18 + 4 * C ∨ p = 19 + 4 * C ∨ p = 20 + 4 * C ∨ p = 21 + 4 * C) : c0_sKeep_f25 f C p = f p := by
  rw [c0_sKeep_f25_fr (k := C) (fun j hj => by omega) (fun j hj => by omega) (fun j hj => by omega) (fun j hj => by omega), c0_tadd_fr (by omega) (by omega)]
theorem c0_f25_p {p : Nat} (hp : p < 18) (h16 : p ≠ 16) (h17 : p ≠ 17) : c0_sKeep_f25 f k p = f p := by
  rw [c0_sKeep_f25_fr (k := k) (fun j hj => by omega) (fun j hj => by omega) (fun j hj => by omega) (fun j hj => by omega), c0_tadd_fr (by omega) (by omega)]
theorem c0_f25_t {p : Nat} (hp : p = 16 ∨ p = 17) : c0_sKeep_f25 f k p = c0_sKeep_f25 f 0 p := by
  rw [c0_sKeep_f25_fr (k := k) (fun j hj => by omega) (fun j hj => by omega) (fun j hj => by omega) (fun j hj => by omega)]
  rfl
/-- behind (7): what is kept -/
theorem c0_kept_eq (hn1 : (fc 1 5).toInt = n) (hn2 : (fr 280 2).toInt = n) (hn16 : n ≤ 16) (hx : fc 1 9 = fr 280 5) (htr : c0_Tr fc fr) (hpk : c0_packAt_v fc (fc 1 9) = r_pack_v fr) (h : ∀ C : Nat, C < n → c0_TI fc fr C ∧ c0_voltsAt_v fc C (fr 280 5) = r_voltsOf_v fr (Int32.ofNat C) C ∧ fc (18 + 4 * C) 3 = r_partOf_v fr (Int32.ofNat C) C ∧ t2_ck fr C ∧ (-2000000000 < (r_voltsOf_v fr (Int32.ofNat C) C).toInt ∧ (r_voltsOf_v fr (Int32.ofNat C) C).toInt < 2000000000) ∧ c0_Rh fc fr C) :
    c0_Tr (c0_sKeep_m fc) (r_goKept_m fr) ∧ ∀ C : Nat, C < n → c0_TI (c0_sKeep_m fc) (r_goKept_m fr) C ∧ (c0_sKeep_m fc (18 + 4 * C) 10 = 1 ∧ c0_sKeep_m fc (18 + 4 * C) 12 = r_goKept_m fr 280 (444 + 61 * C + 7) ∧ c0_sKeep_m fc (18 + 4 * C) 13 = r_goKept_m fr 280 (444 + 61 * C + 8)) ∧ (∀ j : Nat, j ≠ 10 → j ≠ 12 → j ≠ 13 → c0_sKeep_m fc (18 + 4 * C) j = fc (18 + 4 * C) j) ∧ (∀ w : Nat, w ≠ 7 → w ≠ 8 → (w < 10 ∨ (10 < w ∧ w < 17) ∨ w = 60) → r_goKept_m fr 280 (444 + 61 * C + w) = fr 280 (444 + 61 * C + w)) := by
  have hnn : (fc 1 5).toInt.toNat = n := by omega
  have hgn : (fr 280 2).toInt.toNat = n := by omega
  have ht21 := htr.2.2.2.1
  have hn' : 0 ≤ (fr 280 2).toInt ∧ (fr 280 2).toInt ≤ 16 := by omega
  have hk' : ∀ C : Nat, (C : Int) < (fr 280 2).toInt → t2_ck fr C := fun C hC => (h C (by omega)).2.2.2.1
  have hkt' : ∀ C : Nat, (C : Int) < (fr 280 2).toInt → (1 ≤ (fr 280 (444 + 61 * C + 10)).toInt ∧ (fr 280 (444 + 61 * C + 10)).toInt ≤ 32) ∧ r_tv fr C := fun C hC => ⟨(h C (by omega)).1.2.2.2.1, (h C (by omega)).1.2.2.2.2.1⟩
  have W : ∀ k : Nat, k ≤ n → ∀ w : Nat, (w < 444 ∨ 444 + 61 * k ≤ w) → w ≠ 21 → (w < 215 ∨ 311 ≤ w) → r_goKept_f117 fr k 280 w = fr 280 w := fun k hk w a b d => r_goKept_f117_w hn' hk' ht21 hkt' (by omega) a ⟨b, d⟩
  have inn : ∀ (C k : Nat), C < k → k ≤ n → ∀ w : Nat, w < 61 → r_goKept_f117 fr k 280 (444 + 61 * C + w) = r_goKept_b117_m (r_goKept_f117 fr C) ((215 : Int32) + ((3 : Int32) * ((r_goKept_m9 fr) 280 21))) C 280 (444 + 61 * C + w) := by
    intro C k
    induction k with
    | zero => intro h; exact absurd h (Nat.not_lt_zero _)
    | succ k ih =>
      intro hCk hkn w hw
      by_cases e : C = k
      · subst e
        rfl
      · have hkk := hkt' k (by omega)
        have s : ∀ q : Nat, 444 + 61 * k ≤ q → r_goKept_f117 fr k 280 q = fr 280 q := fun q hq => W k (by omega) q (Or.inr hq) (by omega) (by omega)
        refine (r_goKept_b117_w ?_ ?_ ?_ (by omega)).trans (ih (by omega) (by omega) w hw)
        · rw [s _ (by omega)]
          exact hkk.1
        · intro t ht
          rw [s _ (by omega)]
          exact hkk.2 t ht
        · unfold t2_ck
          rw [s _ (by omega), s _ (by omega)]
          exact hk' k (by omega)
  have mF : c0_sKeep_m fc = c0_sKeep_f25 fc n := by unfold c0_sKeep_m; rw [hnn]
  have mG : r_goKept_m fr = r_goKept_f117 fr n := by unfold r_goKept_m; rw [hgn]
  rw [mF, mG]
  refine ⟨?_, fun C hC => ?_⟩
  · have t0 : c0_Tr (c0_sKeep_f25 fc 0) (r_goKept_f117 fr 0) := c0_tr_add htr hx.symm hpk.symm
    refine t0.congr (c0_f25_t (Or.inl rfl)) (c0_f25_t (Or.inr rfl)) (fun w hw => ?_)
    have hs : ∀ k : Nat, k ≤ n → r_goKept_f117 fr k 280 w = r_goKept_f117 fr 0 280 w := by
      intro k
      induction k with
      | zero => intro _; rfl
      | succ k ih =>
        intro hk
        have hkk := hkt' k (by omega)
        have s : ∀ q : Nat, 444 + 61 * k ≤ q → r_goKept_f117 fr k 280 q = fr 280 q := fun q hq => W k (by omega) q (Or.inr hq) (by omega) (by omega)
        refine (r_goKept_b117_w ?_ ?_ ?_ (by omega)).trans (ih (by omega))
        · rw [s _ (by omega)]
          exact hkk.1
        · intro t ht
          rw [s _ (by omega)]
          exact hkk.2 t ht
        · unfold t2_ck
          rw [s _ (by omega), s _ (by omega)]
          exact hk' k (by omega)
    exact hs n (Nat.le_refl n)
  · obtain ⟨ti, hv, hp, hck, hvb, hh⟩ := h C hC
    have aC : ∀ p : Nat, (p = 18 + 4 * C ∨ p = 19 + 4 * C ∨ p = 20 + 4 * C ∨ p = 21 + 4 * C) → c0_sKeep_f25 fc C p = fc p := fun p hp => c0_f25_me hp
    have a9 : c0_sKeep_f25 fc C 1 9 = fr 280 5 := by rw [c0_f25_p (by decide) (by decide) (by decide), hx]
    have bC : ∀ w : Nat, w < 61 → r_goKept_f117 fr C 280 (444 + 61 * C + w) = fr 280 (444 + 61 * C + w) := fun w hw => W C (by omega) _ (Or.inr (by omega)) (by omega) (by omega)
    have b5 : r_goKept_f117 fr C 280 5 = fr 280 5 := W C (by omega) 5 (Or.inl (by decide)) (by decide) (Or.inl (by decide))
    have tiC : c0_TI (c0_sKeep_f25 fc C) (r_goKept_f117 fr C) C := ti.congr (aC _ (by omega)) (aC _ (by omega)) (aC _ (by omega)) (fun w h1 h2 _ _ _ _ _ _ => bC w (by omega))
    have vC : r_voltsOf_v (r_goKept_f117 fr C) (Int32.ofNat C) C = r_voltsOf_v fr (Int32.ofNat C) C := r_volts_c b5 (bC 0 (by decide)) (bC 1 (by decide)) (bC 2 (by decide)) (bC 9 (by decide))
    have pC : r_partOf_v (r_goKept_f117 fr C) (Int32.ofNat C) C = r_partOf_v fr (Int32.ofNat C) C := by
      unfold r_partOf_v
      rw [bC 0 (by decide), bC 1 (by decide)]
    have hpr : 0 ≤ (fc (18 + 4 * C) 3).toInt ∧ (fc (18 + 4 * C) 3).toInt ≤ 1000 := by
      rw [hp]
      exact t2_ckp hck
    obtain ⟨k1, k2, k3, k4, k5, k6⟩ := c0_keep_cell (z := (215 : Int32) + ((3 : Int32) * ((r_goKept_m9 fr) 280 21))) (x := fr 280 5) tiC (by rw [vC, c0_volts_row (aC _ (by omega))]; exact hv) (by rw [pC, aC _ (by omega)]; exact hp) (by rw [aC _ (by omega)]; exact hpr) (c0_ck_congr hck (bC 0 (by decide)) (bC 1 (by decide))) (by rw [vC]; exact hvb) (by unfold c0_Rh; rw [aC _ (by omega), bC 7 (by decide), bC 8 (by decide)]; exact hh)
    have eA : ∀ p : Nat, (p = 18 + 4 * C ∨ p = 19 + 4 * C ∨ p = 20 + 4 * C ∨ p = 21 + 4 * C) → c0_sKeep_f25 fc n p = c0_keepTrack_m (c0_sKeep_f25 fc C) C (fr 280 5) p := fun p hp => by rw [c0_f25_in hp hC, a9]
    have eB := inn C n hC (Nat.le_refl n)
    refine ⟨k1.congr (eA _ (by omega)) (eA _ (by omega)) (eA _ (by omega)) (fun w h1 h2 _ _ _ _ _ _ => eB w (by omega)), ⟨?_, ?_, ?_⟩, fun j j1 j2 j3 => ?_, fun w w7 w8 hw => ?_⟩
    · rw [eA _ (by omega), k2]
    · rw [eA _ (by omega), k3, eB 7 (by decide)]
    · rw [eA _ (by omega), k4, eB 8 (by decide)]
    · rw [eA _ (by omega), k5 j j1 j2 j3, aC _ (by omega)]
    · rw [eB w (by omega), k6 w w7 w8 hw, bC w (by omega)]
end C0KEPT

/-! ===== block 2: what is kept of a second: trace, greatest, least, turns ===== -/
section C2KEPT
variable {fc fr f g F G A B : t2_F} {C n k : Nat} {c x y z : Int32}
def c2_Tr (fc fr : t2_F) : Prop := fc 196 0 = (32 : Int32) ∧ (0 ≤ (fc 196 2).toInt ∧ (fc 196 2).toInt ≤ 31) ∧ fc 196 3 = fr 280 21 ∧ (0 ≤ (fr 280 21).toInt ∧ (fr 280 21).toInt ≤ 32) ∧ ∀ i : Nat, (i : Int) < (fr 280 21).toInt → fc 197 (t2_pl 32 (fc 196 2).toInt.toNat i * 3) = fr 280 (215 + 3 * i) ∧ fc 197 (t2_pl 32 (fc 196 2).toInt.toNat i * 3 + 1) = fr 280 (215 + 3 * i + 1)
theorem c2_tplace {n : Nat} {x : Int32} (h0 : f 196 0 = (32 : Int32)) (hF : 0 ≤ (f 196 2).toInt ∧ (f 196 2).toInt ≤ 31) (hx : x.toInt = n) (hn : n ≤ 32) : (c2_tplace_v f x).toInt = (t2_pl 32 (f 196 2).toInt.toNat n : Nat) := by
  have c32 : (32 : Int32).toInt = 32 := by decide +kernel
  have e : (f 196 2 + x).toInt = (f 196 2).toInt + n := by rw [at_add32] <;> omega
  unfold c2_tplace_v c2_tplace_j12_0 t2_pl
  rw [h0]
  by_cases h : (f 196 2 + x).toInt < (32 : Int32).toInt
  · rw [if_pos h, if_pos (by omega)]
    omega
  · rw [if_neg h, if_neg (by omega), at_sub32] <;> omega
theorem c2_tr_add (h : c2_Tr fc fr) (hx : fr 280 5 = x) (hy : r_pack_v fr = y) : c2_Tr (c2_tadd_m fc x y z) (r_goKept_f117 fr 0) := by
  obtain ⟨h0, hF, h3, hn, hr⟩ := h
  have c32 : (32 : Int32).toInt = 32 := by decide +kernel
  have c1 : (1 : Int32).toInt = 1 := by decide +kernel
  generalize hnn : (fr 280 21).toInt.toNat = n at *
  have en : (fr 280 21).toInt = (n : Int) := by omega
  generalize hFF : (fc 196 2).toInt.toNat = Fi at *
  have pn := c2_tplace (f := fc) (x := fc 196 3) (n := n) h0 hF (by rw [h3]; exact en) (by omega)
  rw [hFF] at pn
  have pnn : (c2_tplace_v fc (fc 196 3)).toInt.toNat = t2_pl 32 Fi n := by omega
  have lF : Fi < 32 := by omega
  by_cases hl : n < 32
  · obtain ⟨w20, wa, wb, wo⟩ := r_kp_lt (f := fr) en hl
    have hlt : (fc 196 3).toInt < (fc 196 0).toInt := by rw [h3, h0]; omega
    have k0 : c2_tadd_m fc x y z 196 0 = fc 196 0 := by
      unfold c2_tadd_m
      rw [fl_row_self, upd_ne (by decide), upd_ne (by decide)]
    have k2 : c2_tadd_m fc x y z 196 2 = fc 196 2 := by
      unfold c2_tadd_m c2_tadd_j48_1
      rw [fl_row_self, upd_self, if_pos hlt]
    have k3 : c2_tadd_m fc x y z 196 3 = fc 196 3 + (1 : Int32) := by
      unfold c2_tadd_m c2_tadd_j48_0
      rw [fl_row_self, upd_ne (by decide), upd_self, if_pos hlt]
    have kr : c2_tadd_m fc x y z 197 = upd (upd (upd (fc 197) (t2_pl 32 Fi n * 3) x) (t2_pl 32 Fi n * 3 + 1) y) (t2_pl 32 Fi n * 3 + 2) z := by
      unfold c2_tadd_m
      rw [fl_row_ne (by decide), fl_row_self, pnn]
    refine ⟨by rw [k0, h0], by rw [k2]; exact hF, ?_, by omega, fun i hi => ?_⟩
    · rw [k3, h3]
      apply Int32.toInt.inj
      rw [w20, at_add32] <;> omega
    · rw [k2, hFF, kr]
      by_cases e : i = n
      · subst e
        rw [wa, wb, hx, hy, upd_ne (by omega), upd_ne (by omega), upd_self, upd_ne (by omega), upd_self]
        exact ⟨rfl, rfl⟩
      · have hne := t2_pl_ne (m := 32) (F := Fi) (i := i) (j := n) lF (by omega) hl e
        obtain ⟨r1, r2⟩ := hr i (by omega)
        have w1 := wo (3 * i) (by omega)
        have w2 := wo (3 * i + 1) (by omega)
        rw [w1, show 215 + 3 * i + 1 = 215 + (3 * i + 1) by omega, w2, upd_ne (by omega), upd_ne (by omega), upd_ne (by omega), upd_ne (by omega), upd_ne (by omega), upd_ne (by omega)]
        exact ⟨r1, r2⟩
  · have e32 : n = 32 := by omega
    subst e32
    obtain ⟨w20, wa, wb, wo⟩ := r_kp_32 (f := fr) en
    rw [t2_pl_m lF] at pnn
    have hlt : ¬ (fc 196 3).toInt < (fc 196 0).toInt := by rw [h3, h0]; omega
    have k0 : c2_tadd_m fc x y z 196 0 = fc 196 0 := by
      unfold c2_tadd_m
      rw [fl_row_self, upd_ne (by decide), upd_ne (by decide)]
    have kr : c2_tadd_m fc x y z 197 = upd (upd (upd (fc 197) (Fi * 3) x) (Fi * 3 + 1) y) (Fi * 3 + 2) z := by
      unfold c2_tadd_m
      rw [fl_row_ne (by decide), fl_row_self, pnn]
    have k3 : c2_tadd_m fc x y z 196 3 = fc 196 3 := by
      unfold c2_tadd_m c2_tadd_j48_0
      rw [fl_row_self, upd_ne (by decide), upd_self, if_neg hlt]
    have p1 := c2_tplace (f := fl_row fc 197 (upd (upd (upd (fc 197) (Fi * 3) x) (Fi * 3 + 1) y) (Fi * 3 + 2) z)) (x := (1 : Int32)) (n := 1) (by rw [fl_row_ne (by decide)]; exact h0) (by rw [fl_row_ne (by decide)]; exact hF) c1 (by decide)
    rw [fl_row_ne (by decide), hFF] at p1
    have k2 : (c2_tadd_m fc x y z 196 2).toInt = (t2_pl 32 Fi 1 : Nat) := by
      unfold c2_tadd_m c2_tadd_j48_1
      rw [fl_row_self, upd_self, if_neg hlt, pnn, p1]
    have l1 := t2_pl_lt (m := 32) (F := Fi) (i := 1) lF (by decide)
    refine ⟨by rw [k0, h0], by omega, ?_, by omega, fun i hi => ?_⟩
    · rw [k3, h3]
      apply Int32.toInt.inj
      rw [w20, en]
      rfl
    · rw [k2, Int.toNat_natCast, kr]
      by_cases e : i = 31
      · subst e
        have e31 := t2_pl_e (m := 32) (F := Fi) lF (by decide)
        rw [show 32 - 1 = 31 from rfl] at e31
        rw [e31, wa, wb, hx, hy, upd_ne (by omega), upd_ne (by omega), upd_self, upd_ne (by omega), upd_self]
        exact ⟨rfl, rfl⟩
      · rw [t2_pl_s lF (by omega)]
        have hne := t2_pl_n0 (m := 32) (F := Fi) (i := i) lF (by omega)
        obtain ⟨r1, r2⟩ := hr (i + 1) (by omega)
        have w1 := wo (3 * i) (by omega)
        have w2 := wo (3 * i + 1) (by omega)
        rw [w1, show 215 + 3 * i + 1 = 215 + (3 * i + 1) by omega, w2, upd_ne (by omega), upd_ne (by omega), upd_ne (by omega), upd_ne (by omega), upd_ne (by omega), upd_ne (by omega)]
        exact ⟨r1, r2⟩
theorem c2_Tr.congr {fc' fr' : t2_F} (h : c2_Tr fc fr) (e1 : fc' 196 = fc 196) (e2 : fc' 197 = fc 197) (e3 : ∀ w : Nat, (w = 21 ∨ (215 ≤ w ∧ w < 311)) → fr' 280 w = fr 280 w) : c2_Tr fc' fr' := by
  obtain ⟨h0, hF, h3, hn, hr⟩ := h
  unfold c2_Tr
  rw [e1, e2, e3 21 (Or.inl rfl)]
  exact ⟨h0, hF, h3, hn, fun i hi => by rw [e3 _ (by omega), e3 _ (by omega)]; exact hr i hi⟩
def c2_Rh (fc fr : t2_F) (C : Nat) : Prop := (fc (198 + 4 * C) 10 = 0 ∧ fr 280 (444 + 61 * C + 7) = (-2000000000 : Int32) ∧ fr 280 (444 + 61 * C + 8) = (2000000000 : Int32)) ∨ (fc (198 + 4 * C) 10 = 1 ∧ fc (198 + 4 * C) 12 = fr 280 (444 + 61 * C + 7) ∧ fc (198 + 4 * C) 13 = fr 280 (444 + 61 * C + 8))
theorem c2_keep_cell (h : c2_TI A B C) (hv : c2_voltsAt_v A C x = r_voltsOf_v B (Int32.ofNat C) C) (hp : A (198 + 4 * C) 3 = r_partOf_v B (Int32.ofNat C) C) (hpr : 0 ≤ (A (198 + 4 * C) 3).toInt ∧ (A (198 + 4 * C) 3).toInt ≤ 1000) (hk : t2_ck B C) (hvb : -2000000000 < (r_voltsOf_v B (Int32.ofNat C) C).toInt ∧ (r_voltsOf_v B (Int32.ofNat C) C).toInt < 2000000000) (hh : c2_Rh A B C) :
    c2_TI (c2_keepTrack_m A C x) (r_goKept_b117_m B z C) C ∧ c2_keepTrack_m A C x (198 + 4 * C) 10 = 1 ∧ c2_keepTrack_m A C x (198 + 4 * C) 12 = r_goKept_b117_m B z C 280 (444 + 61 * C + 7) ∧ c2_keepTrack_m A C x (198 + 4 * C) 13 = r_goKept_b117_m B z C 280 (444 + 61 * C + 8) ∧ (∀ j : Nat, j ≠ 10 → j ≠ 12 → j ≠ 13 → c2_keepTrack_m A C x (198 + 4 * C) j = A (198 + 4 * C) j) ∧ (∀ w : Nat, w ≠ 7 → w ≠ 8 → (w < 10 ∨ (10 < w ∧ w < 17) ∨ w = 60) → r_goKept_b117_m B z C 280 (444 + 61 * C + w) = B 280 (444 + 61 * C + w)) := by
  have cn : (-2000000000 : Int32).toInt = -2000000000 := by decide +kernel
  have cp : (2000000000 : Int32).toInt = 2000000000 := by decide +kernel
  have c1 : (1 : Int32).toInt = 1 := by decide +kernel
  have c0 : (0 : Int32).toInt = 0 := rfl
  have e141 : c2_keepTrack_j11_0 A C x = r_goKept_b117_j141_0 B z C ∧ c2_keepTrack_j34_0 A C x = r_goKept_b117_j160_0 B z C := by
    unfold c2_keepTrack_j11_0 c2_keepTrack_j34_0 r_goKept_b117_j141_0 r_goKept_b117_j160_0
    rw [hv]
    rcases hh with ⟨a, b, d⟩ | ⟨a, b, d⟩
    · rw [a, b, d, if_pos c0, if_pos c0, if_pos (by omega), if_pos (by omega)]
      exact ⟨rfl, rfl⟩
    · rw [a, b, d, if_neg (show ¬ (1 : Int32).toInt = 0 by omega), if_neg (show ¬ (1 : Int32).toInt = 0 by omega)]
      exact ⟨rfl, rfl⟩
  let A' : t2_F := fl_row A (198 + 4 * C) (upd (upd (upd (A (198 + 4 * C)) 12 (c2_keepTrack_j11_0 A C x)) 13 (c2_keepTrack_j34_0 A C x)) 10 (1 : Int32))
  let B' : t2_F := fl_row B 280 (upd (upd (B 280) (444 + 61 * C + 7) (r_goKept_b117_j141_0 B z C)) (444 + 61 * C + 8) (r_goKept_b117_j160_0 B z C))
  have bw : ∀ w : Nat, w ≠ 444 + 61 * C + 7 → w ≠ 444 + 61 * C + 8 → B' 280 w = B 280 w := fun w h7 h8 => by
    show fl_row B 280 _ 280 w = _
    rw [fl_row_self, upd_ne h8, upd_ne h7]
  have ti : c2_TI A' B' C := h.congr (fl_row_ne (by omega)) (fl_row_ne (by omega)) (fl_row_ne (by omega)) (fun w h1 h2 _ _ _ _ _ _ => bw _ (by omega) (by omega))
  have pe : r_partOf_v B' (Int32.ofNat C) C = r_partOf_v B (Int32.ofNat C) C := by
    unfold r_partOf_v
    rw [bw _ (by omega) (by omega), bw _ (by omega) (by omega)]
  have fo := c2_follow_eq (c := Int32.ofNat C) (x := A (198 + 4 * C) 3) ti (by rw [pe]; exact hp) hpr
  have ek : c2_keepTrack_m A C x = c2_follow_m A' C (A (198 + 4 * C) 3) := rfl
  have eb : r_goKept_b117_m B z C = r_goTurn_m B' (Int32.ofNat C) C := rfl
  have row : c2_keepTrack_m A C x (198 + 4 * C) = upd (upd (upd (A (198 + 4 * C)) 12 (c2_keepTrack_j11_0 A C x)) 13 (c2_keepTrack_j34_0 A C x)) 10 (1 : Int32) := by
    rw [ek, c2_follow_fr (by omega) (by omega) (by omega)]
    exact fl_row_self _ _ _
  obtain ⟨al, -⟩ := id (⟨ti.2.2.2, True.intro⟩ : r_alt B' C ∧ True)
  have ckB : t2_ck B' C := by
    unfold t2_ck
    rw [bw _ (by omega) (by omega), bw _ (by omega) (by omega)]
    exact hk
  have gw : ∀ w : Nat, (w < 444 + 61 * C + 10 ∨ (444 + 61 * C + 10 < w ∧ w < 444 + 61 * C + 17) ∨ 444 + 61 * C + 60 ≤ w) → r_goKept_b117_m B z C 280 w = B' 280 w := fun w hw => by
    rw [eb]
    exact r_goTurn_w al.1 al.2.1 ckB hw
  refine ⟨by rw [ek, eb]; exact fo, ?_, ?_, ?_, fun j j10 j12 j13 => ?_, fun w w7 w8 hw => ?_⟩
  · rw [row, upd_self]
  · rw [row, upd_ne (by decide), upd_ne (by decide), upd_self, gw _ (by omega), e141.1]
    show _ = fl_row B 280 _ 280 _
    rw [fl_row_self, upd_ne (by omega), upd_self]
  · rw [row, upd_ne (by decide), upd_self, gw _ (by omega), e141.2]
    show _ = fl_row B 280 _ 280 _
    rw [fl_row_self, upd_self]
  · rw [row, upd_ne j10, upd_ne j13, upd_ne j12]
  · rw [gw _ (by omega), bw _ (by omega) (by omega)]
theorem c2_f25_in {p : Nat} (hp : p = 198 + 4 * C ∨ p = 199 + 4 * C ∨ p = 200 + 4 * C ∨ p = 201 + 4 * C) : ∀ {k : Nat}, C < k → c2_sKeep_f25 f k p = c2_keepTrack_m (c2_sKeep_f25 f C) C (c2_sKeep_f25 f C 181 9) p := by
  intro k
  induction k with
  | zero => intro h; exact absurd h (Nat.not_lt_zero _)
  | succ k ih =>
    intro h
    by_cases e : C = k
    · subst e
      rfl
    · exact (c2_sKeep_b25_fr (f := c2_sKeep_f25 f k) (k := k) (p := p) (by omega) (by omega) (by omega) (by omega)).trans (ih (by omega))
theorem c2_f25_me {p : Nat} (hp : p = 198 + 4 * C ∨ p = 199 + 4 * C ∨ p = 200 + 4 * C ∨ p = 201 + 4 * C) : c2_sKeep_f25 f C p = f p := by
  rw [c2_sKeep_f25_fr (k := C) (fun j hj => by omega) (fun j hj => by omega) (fun j hj => by omega) (fun j hj => by omega), c2_tadd_fr (by omega) (by omega)]
theorem c2_f25_p {p : Nat} (hp : p < 198) (h16 : p ≠ 196) (h17 : p ≠ 197) : c2_sKeep_f25 f k p = f p := by
  rw [c2_sKeep_f25_fr (k := k) (fun j hj => by omega) (fun j hj => by omega) (fun j hj => by omega) (fun j hj => by omega), c2_tadd_fr (by omega) (by omega)]
theorem c2_f25_t {p : Nat} (hp : p = 196 ∨ p = 197) : c2_sKeep_f25 f k p = c2_sKeep_f25 f 0 p := by
  rw [c2_sKeep_f25_fr (k := k) (fun j hj => by omega) (fun j hj => by omega) (fun j hj => by omega) (fun j hj => by omega)]
  rfl
theorem c2_kept_eq (hn1 : (fc 181 5).toInt = n) (hn2 : (fr 280 2).toInt = n) (hn16 : n ≤ 16) (hx : fc 181 9 = fr 280 5) (htr : c2_Tr fc fr) (hpk : c2_packAt_v fc (fc 181 9) = r_pack_v fr) (h : ∀ C : Nat, C < n → c2_TI fc fr C ∧ c2_voltsAt_v fc C (fr 280 5) = r_voltsOf_v fr (Int32.ofNat C) C ∧ fc (198 + 4 * C) 3 = r_partOf_v fr (Int32.ofNat C) C ∧ t2_ck fr C ∧ (-2000000000 < (r_voltsOf_v fr (Int32.ofNat C) C).toInt ∧ (r_voltsOf_v fr (Int32.ofNat C) C).toInt < 2000000000) ∧ c2_Rh fc fr C) :
    c2_Tr (c2_sKeep_m fc) (r_goKept_m fr) ∧ ∀ C : Nat, C < n → c2_TI (c2_sKeep_m fc) (r_goKept_m fr) C ∧ (c2_sKeep_m fc (198 + 4 * C) 10 = 1 ∧ c2_sKeep_m fc (198 + 4 * C) 12 = r_goKept_m fr 280 (444 + 61 * C + 7) ∧ c2_sKeep_m fc (198 + 4 * C) 13 = r_goKept_m fr 280 (444 + 61 * C + 8)) ∧ (∀ j : Nat, j ≠ 10 → j ≠ 12 → j ≠ 13 → c2_sKeep_m fc (198 + 4 * C) j = fc (198 + 4 * C) j) ∧ (∀ w : Nat, w ≠ 7 → w ≠ 8 → (w < 10 ∨ (10 < w ∧ w < 17) ∨ w = 60) → r_goKept_m fr 280 (444 + 61 * C + w) = fr 280 (444 + 61 * C + w)) := by
  have hnn : (fc 181 5).toInt.toNat = n := by omega
  have hgn : (fr 280 2).toInt.toNat = n := by omega
  have ht21 := htr.2.2.2.1
  have hn' : 0 ≤ (fr 280 2).toInt ∧ (fr 280 2).toInt ≤ 16 := by omega
  have hk' : ∀ C : Nat, (C : Int) < (fr 280 2).toInt → t2_ck fr C := fun C hC => (h C (by omega)).2.2.2.1
  have hkt' : ∀ C : Nat, (C : Int) < (fr 280 2).toInt → (1 ≤ (fr 280 (444 + 61 * C + 10)).toInt ∧ (fr 280 (444 + 61 * C + 10)).toInt ≤ 32) ∧ r_tv fr C := fun C hC => ⟨(h C (by omega)).1.2.2.2.1, (h C (by omega)).1.2.2.2.2.1⟩
  have W : ∀ k : Nat, k ≤ n → ∀ w : Nat, (w < 444 ∨ 444 + 61 * k ≤ w) → w ≠ 21 → (w < 215 ∨ 311 ≤ w) → r_goKept_f117 fr k 280 w = fr 280 w := fun k hk w a b d => r_goKept_f117_w hn' hk' ht21 hkt' (by omega) a ⟨b, d⟩
  have inn : ∀ (C k : Nat), C < k → k ≤ n → ∀ w : Nat, w < 61 → r_goKept_f117 fr k 280 (444 + 61 * C + w) = r_goKept_b117_m (r_goKept_f117 fr C) ((215 : Int32) + ((3 : Int32) * ((r_goKept_m9 fr) 280 21))) C 280 (444 + 61 * C + w) := by
    intro C k
    induction k with
    | zero => intro h; exact absurd h (Nat.not_lt_zero _)
    | succ k ih =>
      intro hCk hkn w hw
      by_cases e : C = k
      · subst e
        rfl
      · have hkk := hkt' k (by omega)
        have s : ∀ q : Nat, 444 + 61 * k ≤ q → r_goKept_f117 fr k 280 q = fr 280 q := fun q hq => W k (by omega) q (Or.inr hq) (by omega) (by omega)
        refine (r_goKept_b117_w ?_ ?_ ?_ (by omega)).trans (ih (by omega) (by omega) w hw)
        · rw [s _ (by omega)]
          exact hkk.1
        · intro t ht
          rw [s _ (by omega)]
          exact hkk.2 t ht
        · unfold t2_ck
          rw [s _ (by omega), s _ (by omega)]
          exact hk' k (by omega)
  have mF : c2_sKeep_m fc = c2_sKeep_f25 fc n := by unfold c2_sKeep_m; rw [hnn]
  have mG : r_goKept_m fr = r_goKept_f117 fr n := by unfold r_goKept_m; rw [hgn]
  rw [mF, mG]
  refine ⟨?_, fun C hC => ?_⟩
  · have t0 : c2_Tr (c2_sKeep_f25 fc 0) (r_goKept_f117 fr 0) := c2_tr_add htr hx.symm hpk.symm
    refine t0.congr (c2_f25_t (Or.inl rfl)) (c2_f25_t (Or.inr rfl)) (fun w hw => ?_)
    have hs : ∀ k : Nat, k ≤ n → r_goKept_f117 fr k 280 w = r_goKept_f117 fr 0 280 w := by
      intro k
      induction k with
      | zero => intro _; rfl
      | succ k ih =>
        intro hk
        have hkk := hkt' k (by omega)
        have s : ∀ q : Nat, 444 + 61 * k ≤ q → r_goKept_f117 fr k 280 q = fr 280 q := fun q hq => W k (by omega) q (Or.inr hq) (by omega) (by omega)
        refine (r_goKept_b117_w ?_ ?_ ?_ (by omega)).trans (ih (by omega))
        · rw [s _ (by omega)]
          exact hkk.1
        · intro t ht
          rw [s _ (by omega)]
          exact hkk.2 t ht
        · unfold t2_ck
          rw [s _ (by omega), s _ (by omega)]
          exact hk' k (by omega)
    exact hs n (Nat.le_refl n)
  · obtain ⟨ti, hv, hp, hck, hvb, hh⟩ := h C hC
    have aC : ∀ p : Nat, (p = 198 + 4 * C ∨ p = 199 + 4 * C ∨ p = 200 + 4 * C ∨ p = 201 + 4 * C) → c2_sKeep_f25 fc C p = fc p := fun p hp => c2_f25_me hp
    have a9 : c2_sKeep_f25 fc C 181 9 = fr 280 5 := by rw [c2_f25_p (by decide) (by decide) (by decide), hx]
    have bC : ∀ w : Nat, w < 61 → r_goKept_f117 fr C 280 (444 + 61 * C + w) = fr 280 (444 + 61 * C + w) := fun w hw => W C (by omega) _ (Or.inr (by omega)) (by omega) (by omega)
    have b5 : r_goKept_f117 fr C 280 5 = fr 280 5 := W C (by omega) 5 (Or.inl (by decide)) (by decide) (Or.inl (by decide))
    have tiC : c2_TI (c2_sKeep_f25 fc C) (r_goKept_f117 fr C) C := ti.congr (aC _ (by omega)) (aC _ (by omega)) (aC _ (by omega)) (fun w h1 h2 _ _ _ _ _ _ => bC w (by omega))
    have vC : r_voltsOf_v (r_goKept_f117 fr C) (Int32.ofNat C) C = r_voltsOf_v fr (Int32.ofNat C) C := r_volts_c b5 (bC 0 (by decide)) (bC 1 (by decide)) (bC 2 (by decide)) (bC 9 (by decide))
    have pC : r_partOf_v (r_goKept_f117 fr C) (Int32.ofNat C) C = r_partOf_v fr (Int32.ofNat C) C := by
      unfold r_partOf_v
      rw [bC 0 (by decide), bC 1 (by decide)]
    have hpr : 0 ≤ (fc (198 + 4 * C) 3).toInt ∧ (fc (198 + 4 * C) 3).toInt ≤ 1000 := by
      rw [hp]
      exact t2_ckp hck
    obtain ⟨k1, k2, k3, k4, k5, k6⟩ := c2_keep_cell (z := (215 : Int32) + ((3 : Int32) * ((r_goKept_m9 fr) 280 21))) (x := fr 280 5) tiC (by rw [vC, c2_volts_row (aC _ (by omega))]; exact hv) (by rw [pC, aC _ (by omega)]; exact hp) (by rw [aC _ (by omega)]; exact hpr) (c2_ck_congr hck (bC 0 (by decide)) (bC 1 (by decide))) (by rw [vC]; exact hvb) (by unfold c2_Rh; rw [aC _ (by omega), bC 7 (by decide), bC 8 (by decide)]; exact hh)
    have eA : ∀ p : Nat, (p = 198 + 4 * C ∨ p = 199 + 4 * C ∨ p = 200 + 4 * C ∨ p = 201 + 4 * C) → c2_sKeep_f25 fc n p = c2_keepTrack_m (c2_sKeep_f25 fc C) C (fr 280 5) p := fun p hp => by rw [c2_f25_in hp hC, a9]
    have eB := inn C n hC (Nat.le_refl n)
    refine ⟨k1.congr (eA _ (by omega)) (eA _ (by omega)) (eA _ (by omega)) (fun w h1 h2 _ _ _ _ _ _ => eB w (by omega)), ⟨?_, ?_, ?_⟩, fun j j1 j2 j3 => ?_, fun w w7 w8 hw => ?_⟩
    · rw [eA _ (by omega), k2]
    · rw [eA _ (by omega), k3, eB 7 (by decide)]
    · rw [eA _ (by omega), k4, eB 8 (by decide)]
    · rw [eA _ (by omega), k5 j j1 j2 j3, aC _ (by omega)]
    · rw [eB w (by omega), k6 w w7 w8 hw, bC w (by omega)]
end C2KEPT

end

/-! 94.21.rul.lean.txt -/
section
/-! ===== block 0: (8) of a second: rules ===== -/
section C0RUL
variable {fc fr f f' g F G A B : t2_F} {C n k : Nat} {c x y z : Int32}
theorem c0_tell_c (h : ∀ p : Nat, p ≠ 4 → f' p = f p) : c0_tell_v f' x = c0_tell_v f x := by
  have h1 := h 1 (by decide)
  have hp : c0_packAt_v f' (f 1 9) = c0_packAt_v f (f 1 9) := by
    unfold c0_packAt_v
    rw [h1, c0_pack_c (f := f) (fun C hC j hj => by rw [h _ (by omega)])]
  have ha := (c0_live_c (f := f) (f' := f') (by rw [h1]) (h 5 (by decide))).1
  unfold c0_tell_v
  rw [h1, hp, ha, h 10 (by decide), h 3 (by decide)]
theorem r_is_c (h : ∀ w : Nat, (w < 34 ∨ 64 ≤ w) → f' 280 w = f 280 w) : r_is_v f' x = r_is_v f x := by
  have hp : r_pack_v f' = r_pack_v f := by
    unfold r_pack_v
    rw [h 2 (by omega), r_pack_c (h 5 (by omega)) (fun C hC w hw => h _ (by omega))]
  have ha := (r_live_c (f := f) (f' := f') (h 3 (by omega)) (fun k hk => h _ (by omega))).1
  unfold r_is_v
  rw [hp, ha, h 2 (by omega), h 3 (by omega), h 4 (by omega), h 5 (by omega), h 6 (by omega), h 7 (by omega), h 8 (by omega), h 9 (by omega), h 10 (by omega), h 11 (by omega), h 12 (by omega), h 19 (by omega), h 13 (by omega), h 17 (by omega)]
def c0_Rr (fc fr : t2_F) : Prop := fc 3 8 = fr 280 18 ∧ (0 ≤ (fr 280 18).toInt ∧ (fr 280 18).toInt ≤ 8) ∧ ∀ j : Nat, (j : Int) < 5 * (fr 280 18).toInt → fc 9 j = fr 280 (79 + j)
theorem c0_rules_eq (hs : c0_Rs fc fr) (hr : c0_Rr fc fr) (hri : ∀ k : Nat, k < 8 → 0 ≤ (fr 280 ((79 + (5 * k)) + 3)).toInt ∧ (fr 280 ((79 + (5 * k)) + 3)).toInt ≤ 29) (hT : ∀ x : Int32, c0_tell_v fc x = r_is_v fr x) : c0_Rs (c0_obeyRules_m fc) (r_goRules_m fr) := by
  obtain ⟨r1, r2, r3⟩ := hr
  generalize hN : (fr 280 18).toInt.toNat = N
  have eN : (fr 280 18).toInt = (N : Int) := by omega
  have FA : ∀ k : Nat, ∀ p : Nat, p ≠ 4 → c0_obeyRules_f10 fc k p = fc p := by
    intro k
    induction k with
    | zero => intro p _; rfl
    | succ k ih =>
      intro p hp
      show c0_obeyRules_b10_m (c0_obeyRules_f10 fc k) k p = _
      unfold c0_obeyRules_b10_m
      rw [fl_row_ne hp]
      exact ih p hp
  have FB : ∀ k : Nat, k ≤ 8 → ∀ w : Nat, (w < 34 ∨ 64 ≤ w) → r_goRules_f2 fr k 280 w = fr 280 w := fun k hk w hw => r_goRules_f2_w r2 hri hk hw
  have loop : ∀ k : Nat, k ≤ N → c0_Rs (c0_obeyRules_f10 fc k) (r_goRules_f2 fr k) := by
    intro k
    induction k with
    | zero => intro _; exact hs
    | succ k ih =>
      intro hk
      have ih := ih (by omega)
      have tT : ∀ x : Int32, c0_tell_v (c0_obeyRules_f10 fc k) x = r_is_v (r_goRules_f2 fr k) x := fun x => by
        rw [c0_tell_c (FA k), r_is_c (FB k (by omega)), hT]
      have q : ∀ i : Nat, i < 5 → c0_obeyRules_f10 fc k 9 (k * 5 + i) = r_goRules_f2 fr k 280 ((79 + (5 * k)) + i) := fun i hi => by
        rw [FA k _ (by decide), FB k (by omega) _ (by omega), r3 _ (by omega)]
        congr 1
        omega
      have q0 : c0_obeyRules_f10 fc k 9 (k * 5) = r_goRules_f2 fr k 280 (79 + (5 * k)) := q 0 (by decide)
      have b3 := hri k (by omega)
      have i3 : (r_goRules_f2 fr k 280 ((79 + (5 * k)) + 3)).toInt.toNat ≤ 29 := by rw [FB k (by omega) _ (by omega)]; omega
      show c0_Rs (c0_obeyRules_b10_m (c0_obeyRules_f10 fc k) k) (r_goRules_b2_m (r_goRules_f2 fr k) k)
      unfold c0_obeyRules_b10_m r_goRules_b2_m
      have ej : c0_obeyRules_b10_j47_0 (c0_obeyRules_f10 fc k) k = r_goRules_b2_j40_0 (r_goRules_f2 fr k) k := by
        unfold c0_obeyRules_b10_j47_0 r_goRules_b2_j40_0
        rw [q 1 (by decide), q 2 (by decide), q 3 (by decide), q 4 (by decide), q0, tT, ih _ (by omega)]
      rw [ej, q 3 (by decide)]
      intro j hj
      rw [fl_row_self, fl_row_self]
      by_cases e : j = (r_goRules_f2 fr k 280 ((79 + (5 * k)) + 3)).toInt.toNat
      · rw [← e, upd_self, upd_self]
      · rw [upd_ne e, upd_ne (by omega)]
        exact ih j hj
  unfold c0_obeyRules_m r_goRules_m
  rw [r1, hN]
  exact loop N (Nat.le_refl N)
end C0RUL

/-! ===== block 2: (8) of a second: rules ===== -/
section C2RUL
variable {fc fr f f' g F G A B : t2_F} {C n k : Nat} {c x y z : Int32}
theorem c2_tell_c (h : ∀ p : Nat, p ≠ 184 → f' p = f p) : c2_tell_v f' x = c2_tell_v f x := by
  have h1 := h 181 (by decide)
  have hp : c2_packAt_v f' (f 181 9) = c2_packAt_v f (f 181 9) := by
    unfold c2_packAt_v
    rw [h1, c2_pack_c (f := f) (fun C hC j hj => by rw [h _ (by omega)])]
  have ha := (c2_live_c (f := f) (f' := f') (by rw [h1]) (h 185 (by decide))).1
  unfold c2_tell_v
  rw [h1, hp, ha, h 190 (by decide), h 183 (by decide)]
def c2_Rr (fc fr : t2_F) : Prop := fc 183 8 = fr 280 18 ∧ (0 ≤ (fr 280 18).toInt ∧ (fr 280 18).toInt ≤ 8) ∧ ∀ j : Nat, (j : Int) < 5 * (fr 280 18).toInt → fc 189 j = fr 280 (79 + j)
theorem c2_rules_eq (hs : c2_Rs fc fr) (hr : c2_Rr fc fr) (hri : ∀ k : Nat, k < 8 → 0 ≤ (fr 280 ((79 + (5 * k)) + 3)).toInt ∧ (fr 280 ((79 + (5 * k)) + 3)).toInt ≤ 29) (hT : ∀ x : Int32, c2_tell_v fc x = r_is_v fr x) : c2_Rs (c2_obeyRules_m fc) (r_goRules_m fr) := by
  obtain ⟨r1, r2, r3⟩ := hr
  generalize hN : (fr 280 18).toInt.toNat = N
  have eN : (fr 280 18).toInt = (N : Int) := by omega
  have FA : ∀ k : Nat, ∀ p : Nat, p ≠ 184 → c2_obeyRules_f10 fc k p = fc p := by
    intro k
    induction k with
    | zero => intro p _; rfl
    | succ k ih =>
      intro p hp
      show c2_obeyRules_b10_m (c2_obeyRules_f10 fc k) k p = _
      unfold c2_obeyRules_b10_m
      rw [fl_row_ne hp]
      exact ih p hp
  have FB : ∀ k : Nat, k ≤ 8 → ∀ w : Nat, (w < 34 ∨ 64 ≤ w) → r_goRules_f2 fr k 280 w = fr 280 w := fun k hk w hw => r_goRules_f2_w r2 hri hk hw
  have loop : ∀ k : Nat, k ≤ N → c2_Rs (c2_obeyRules_f10 fc k) (r_goRules_f2 fr k) := by
    intro k
    induction k with
    | zero => intro _; exact hs
    | succ k ih =>
      intro hk
      have ih := ih (by omega)
      have tT : ∀ x : Int32, c2_tell_v (c2_obeyRules_f10 fc k) x = r_is_v (r_goRules_f2 fr k) x := fun x => by
        rw [c2_tell_c (FA k), r_is_c (FB k (by omega)), hT]
      have q : ∀ i : Nat, i < 5 → c2_obeyRules_f10 fc k 189 (k * 5 + i) = r_goRules_f2 fr k 280 ((79 + (5 * k)) + i) := fun i hi => by
        rw [FA k _ (by decide), FB k (by omega) _ (by omega), r3 _ (by omega)]
        congr 1
        omega
      have q0 : c2_obeyRules_f10 fc k 189 (k * 5) = r_goRules_f2 fr k 280 (79 + (5 * k)) := q 0 (by decide)
      have b3 := hri k (by omega)
      have i3 : (r_goRules_f2 fr k 280 ((79 + (5 * k)) + 3)).toInt.toNat ≤ 29 := by rw [FB k (by omega) _ (by omega)]; omega
      show c2_Rs (c2_obeyRules_b10_m (c2_obeyRules_f10 fc k) k) (r_goRules_b2_m (r_goRules_f2 fr k) k)
      unfold c2_obeyRules_b10_m r_goRules_b2_m
      have ej : c2_obeyRules_b10_j47_0 (c2_obeyRules_f10 fc k) k = r_goRules_b2_j40_0 (r_goRules_f2 fr k) k := by
        unfold c2_obeyRules_b10_j47_0 r_goRules_b2_j40_0
        rw [q 1 (by decide), q 2 (by decide), q 3 (by decide), q 4 (by decide), q0, tT, ih _ (by omega)]
      rw [ej, q 3 (by decide)]
      intro j hj
      rw [fl_row_self, fl_row_self]
      by_cases e : j = (r_goRules_f2 fr k 280 ((79 + (5 * k)) + 3)).toInt.toNat
      · rw [← e, upd_self, upd_self]
      · rw [upd_ne e, upd_ne (by omega)]
        exact ih j hj
  unfold c2_obeyRules_m r_goRules_m
  rw [r1, hN]
  exact loop N (Nat.le_refl N)
end C2RUL

end

/-! 94.22.frm.lean.txt -/
section
/-! ===== block 0: what the parts of a second leave alone ===== -/
section C0FRM
variable {fc fr f f' g F G A B : t2_F} {C n k : Nat} {c x y z : Int32}
/-- (1): too slow? -/
theorem c0_slow_eq (hst : fc 1 7 = fr 280 3) (hb : fc 1 8 = fr 280 4) (hs : c0_Rs fc fr) (hp : c0_packAt_v fc (0 : Int32) = r_packCalm_v fr) (hj : c0_moveBus_j16_0 fc = r_goBus_j16_0 fr) : c0_moveBus_v fc = r_goBus_m fr 277 4 ∧ (r_goBus_m fr 277 4 = 0 ∨ r_goBus_m fr 277 4 = 1) ∧ ∀ j : Nat, j ≠ 4 → r_goBus_m fr 277 j = fr 277 j := by
  have s8 : fc 4 8 = fr 280 42 := hs 8 (by omega)
  unfold c0_moveBus_v r_goBus_m
  rw [hst, hb, hp, hj, s8, t2_m32 (r_goBus_j16_0 fr) (1000 : Int32)]
  by_cases h1 : (fr 280 3).toInt = (1 : Int32).toInt
  · by_cases h2 : ((1000 : Int32) * (r_goBus_j16_0 fr)).toInt < ((950 : Int32) * (r_packCalm_v fr)).toInt
    · by_cases h3 : ((r_goBus_j16_0 fr) - (fr 280 4)).toInt < (fr 280 42).toInt
      · simp only [if_pos h1, if_pos h2, if_pos h3]
        refine ⟨?_, Or.inr ?_, fun j hj => ?_⟩
        · rw [fl_row_self, upd_self]
        · rw [fl_row_self, upd_self]
        · rw [fl_row_self, upd_ne hj]
      · simp only [if_pos h1, if_pos h2, if_neg h3]
        refine ⟨?_, Or.inl ?_, fun j hj => ?_⟩
        · rw [fl_row_self, upd_self]
        · rw [fl_row_self, upd_self]
        · rw [fl_row_self, upd_ne hj]
    · simp only [if_pos h1, if_neg h2]
      refine ⟨?_, Or.inl ?_, fun j hj => ?_⟩
      · rw [fl_row_ne (by decide), fl_row_self, upd_self]
      · rw [fl_row_ne (by decide), fl_row_self, upd_self]
      · rw [fl_row_ne (by decide), fl_row_self, upd_ne hj]
  · simp only [if_neg h1]
    refine ⟨?_, Or.inl ?_, fun j hj => ?_⟩
    · rw [fl_row_self, upd_self]
    · rw [fl_row_self, upd_self]
    · rw [fl_row_self, upd_ne hj]
/-- (3): the words of a cell that stay -/
theorem c0_wear_o {i : Nat} {j : Nat} (h0 : j ≠ 0) (h8 : j ≠ 8) (h9 : j ≠ 9) : c0_wear_m f i x (18 + 4 * i) j = f (18 + 4 * i) j := by
  unfold c0_wear_m c0_putReckoned_m
  split
  · split
    · rfl
    · rw [fl_row_self, upd_ne h8, fl_row_self, upd_ne h9, upd_ne h0]
  · rfl
theorem c0_pass_o {i j : Nat} (hj : j = 1 ∨ j = 5 ∨ 10 ≤ j) : c0_pass_m f i x (18 + 4 * i) j = f (18 + 4 * i) j := by
  unfold c0_pass_m c0_putReckoned_m c0_putCharge_m
  rw [fl_row_self, upd_ne (by omega), fl_row_self, upd_ne (by omega), upd_ne (by omega), upd_ne (by omega), c0_wear_o (by omega) (by omega) (by omega), fl_row_self, upd_ne (by omega), upd_ne (by omega), upd_ne (by omega)]
theorem c0_cells_o (hn : (fc 1 5).toInt.toNat = n) (hC : C < n) {j : Nat} (hj : j = 1 ∨ j = 5 ∨ 10 ≤ j) : c0_passCells_m fc (18 + 4 * C) j = fc (18 + 4 * C) j := by
  unfold c0_passCells_m
  rw [c0_f35_o (by omega), hn, c0_f2_at hC, c0_pass_o hj, c0_passCells_f2_fr (k := C) (p := 18 + 4 * C) (fun j hj => by omega)]
theorem c0_cells_p {p : Nat} (hp : p < 18 ∨ ∀ C : Nat, C < 16 → p ≠ 18 + 4 * C) (hn : (fc 1 5).toInt.toNat ≤ 16) : c0_passCells_m fc p = fc p := by
  unfold c0_passCells_m
  rw [c0_passCells_f35_fr (fun j hj => by rcases hp with h | h; omega; exact h j (by omega)) (fun j hj => by rcases hp with h | h; omega; exact h (j + 1) (by omega)), c0_passCells_f2_fr (fun j hj => by rcases hp with h | h; omega; exact h j (by omega))]
theorem r_cells_o {w : Nat} (hn : (fr 280 2).toInt.toNat = n) (hw : w < 61) (h : w ≠ 0 ∧ w ≠ 1 ∧ w ≠ 3 ∧ w ≠ 4 ∧ w ≠ 5 ∧ w ≠ 9) : r_goCells_m fr 280 (444 + 61 * C + w) = fr 280 (444 + 61 * C + w) := by
  unfold r_goCells_m
  exact r_f50_same hw h.1 h.2.1 h.2.2.1 h.2.2.2.1 h.2.2.2.2.1 h.2.2.2.2.2
theorem r_cells_lo {w : Nat} (hw : w < 444) : r_goCells_m fr 280 w = fr 280 w := by
  unfold r_goCells_m
  exact r_f50_lo hw
/-! (4) -/
theorem r_shuttle_277 {j : Nat} (hj : j ≠ 6) : r_shuttle_m f c C 277 j = f 277 j := by
  unfold r_shuttle_m
  repeat' split
  all_goals first | rfl | (rw [fl_row_self, upd_ne hj, r_hld_p (by decide), r_hld_p (by decide), fl_row_ne (by decide)])
theorem r_shunt_277 {j : Nat} (hj : j ≠ 6) : r_shuntAll_m f 277 j = f 277 j := by
  have key : ∀ k : Nat, r_shuntAll_f81 f k 277 j = f 277 j := by
    intro k
    induction k with
    | zero =>
      show r_shuntAll_f40 f _ 277 j = _
      rw [r_shuntAll_f40_fr (fun j hj => by decide)]
    | succ k ih =>
      rw [r_shuntAll_fS]
      unfold r_shuntAll_b81_m
      rw [fl_row_self, upd_ne hj, r_hld_p (by decide), fl_row_ne (by decide)]
      exact ih
  exact key _
theorem r_balance_277 {j : Nat} (hj : j ≠ 6) : r_goBalance_m f 277 j = f 277 j := by
  have z : (fl_row (fl_row f 280 (upd (f 280) 13 (0 : Int32))) 277 (upd (f 277) 6 (0 : Int32))) 277 j = f 277 j := by rw [fl_row_self, upd_ne hj]
  have key : ∀ k : Nat, r_goBalance_f57 f k 277 j = f 277 j := by
    intro k
    induction k with
    | zero =>
      show (if (f 280 45).toInt = (1 : Int32).toInt then _ else _ : t2_F) 277 j = _
      split
      · rw [r_shunt_277 hj, z]
      · exact z
    | succ k ih =>
      show r_shuttle_m (r_goBalance_f57 f k) _ _ 277 j = _
      rw [r_shuttle_277 hj, ih]
  unfold r_goBalance_m
  split
  · split
    · exact key _
    · split
      · rw [r_shunt_277 hj, z]
      · exact z
  · exact z
theorem c0_balance_o (hc : (fc 1 5).toInt.toNat = n) (hg : (fr 280 2).toInt.toNat = n) (hn : n ≤ 16) (h : c0_RB fc fr n) (hl : fc 10 3 = fr 280 6) (ht : fc 1 6 = fr 280 7) (ho : 0 ≤ (fr 280 47).toInt ∧ (fr 280 47).toInt ≤ 16) :
    (∀ p : Nat, p ≠ 1 → (∀ C : Nat, C < 16 → p ≠ 18 + 4 * C) → c0_balance_m fc p = fc p) ∧ (∀ j : Nat, j ≠ 11 → j ≠ 13 → j ≠ 14 → j ≠ 15 → j ≠ 16 → c0_balance_m fc 1 j = fc 1 j) ∧ (∀ C : Nat, C < n → ∀ j : Nat, j ≠ 2 → j ≠ 3 → j ≠ 4 → j ≠ 8 → c0_balance_m fc (18 + 4 * C) j = fc (18 + 4 * C) j) ∧ (∀ C : Nat, C < n → ∀ w : Nat, w < 61 → w ≠ 1 → w ≠ 4 → r_goBalance_m fr 280 (444 + 61 * C + w) = fr 280 (444 + 61 * C + w)) := by
  have c1 : (1 : Int32).toInt = 1 := by decide +kernel
  have c2 : (2 : Int32).toInt = 2 := by decide +kernel
  have s11 : fc 4 11 = fr 280 45 := h.1 11 (by omega)
  have zc : ∀ j : Nat, j ≠ 16 → (fl_row fc 1 (upd (fc 1) 16 (0 : Int32))) 1 j = fc 1 j := fun j hj => by rw [fl_row_self, upd_ne hj]
  have zp : ∀ p : Nat, p ≠ 1 → (fl_row fc 1 (upd (fc 1) 16 (0 : Int32))) p = fc p := fun p hp => fl_row_ne hp
  have zr : ∀ w : Nat, w ≠ 13 → (fl_row (fl_row fr 280 (upd (fr 280) 13 (0 : Int32))) 277 (upd (fr 277) 6 (0 : Int32))) 280 w = fr 280 w := fun w hw => by rw [fl_row_ne (by decide), fl_row_self, upd_ne hw]
  have hz : c0_RB (fl_row fc 1 (upd (fc 1) 16 (0 : Int32))) (fl_row (fl_row fr 280 (upd (fr 280) 13 (0 : Int32))) 277 (upd (fr 277) 6 (0 : Int32))) n := by
    obtain ⟨hs, hC, e14, e15, e11, e13, e16⟩ := h
    refine ⟨hs.congr (zp _ (by decide)) (fun k hk => zr _ (by omega)), fun C hC' => ⟨(hC C hC').1.congr (zp _ (by omega)) (fun k hk => zr _ (by omega)), by rw [zp _ (by omega)]; exact (hC C hC').2.1, c0_ck_congr (hC C hC').2.2 (zr _ (by omega)) (zr _ (by omega))⟩, ?_, ?_, ?_, ?_, ?_⟩
    · rw [zr 11 (by decide), zc 14 (by decide), e14]
    · rw [zr 12 (by decide), zc 15 (by decide), e15]
    · rw [zr 8 (by decide), zc 11 (by decide), e11]
    · rw [zr 10 (by decide), zc 13 (by decide), e13]
    · rw [fl_row_self, upd_self, fl_row_ne (by decide), fl_row_self, upd_self]
  unfold c0_balance_m r_goBalance_m
  rw [hl, s11]
  by_cases h6 : (fr 280 6).toInt = 0
  · rw [if_pos h6, if_pos h6]
    by_cases m1 : (fr 280 45).toInt = (1 : Int32).toInt
    · rw [if_pos m1, if_neg (show ¬ (fr 280 45).toInt = (2 : Int32).toInt by omega), if_pos m1]
      obtain ⟨si, gi⟩ := c0_shunt_two (n := n) (by rw [zc 5 (by decide)]; exact hc) (by rw [zr 2 (by decide)]; exact hg) hn hz (by rw [fl_row_self, upd_self]) (by rw [zr 47 (by decide)]; exact ho)
      obtain ⟨q1, q2, q3, q4, q5, q6⟩ := gi
      refine ⟨fun p hp hC => ?_, fun j a11 a13 a14 a15 a16 => ?_, fun C hC j b2 b3 b4 b8 => ?_, fun C hC w hw w1 w4 => ?_⟩
      · unfold c0_shuntCells_m
        have h5 := zc 5 (by decide)
        rw [c0_shuntCells_f95_fr (fun j hj => hp) (fun j hj => hC j (by rw [h5, hc] at hj; omega)), c0_shuntCells_gw hp, zp p hp]
      · rw [q5 j a11 a13 a16, zc j a16]
      · by_cases hb : t2_bt (r_shuntAll_m (fl_row (fl_row fr 280 (upd (fr 280) 13 (0 : Int32))) 277 (upd (fr 277) 6 (0 : Int32))) 280 13) C = true
        · rw [((q1 C hC).1 ⟨hC, hb⟩).2.2.2.2 j b2 b3 b4 b8, zp _ (by omega)]
        · rw [(q1 C hC).2 (fun q => hb q.2), zp _ (by omega)]
      · rw [si.2.2.1 _ (by omega) (by omega) (by omega) (fun D hD => ⟨by omega, by omega⟩), zr _ (by omega)]
    · rw [if_neg m1]
      by_cases m2 : (fr 280 45).toInt = (2 : Int32).toInt
      · rw [if_pos m2, if_pos m2]
        have ej : c0_balance_j58_0 fc = r_goBalance_j48_0 fr := by
          unfold c0_balance_j58_0 r_goBalance_j48_0
          rw [ht]
        rw [hc, hg, ej]
        have shc : ∀ (f : t2_F) (i : Nat), i + 1 < n → (∀ p : Nat, p ≠ 1 → (∀ C : Nat, C < 16 → p ≠ 18 + 4 * C) → c0_shuttle_m f i p = f p) ∧ (∀ j : Nat, j ≠ 14 → j ≠ 15 → c0_shuttle_m f i 1 j = f 1 j) ∧ (∀ C : Nat, ∀ j : Nat, j ≠ 2 → j ≠ 3 → j ≠ 4 → j ≠ 8 → c0_shuttle_m f i (18 + 4 * C) j = f (18 + 4 * C) j) := by
          intro f i hi
          have one : ∀ A B : Nat, A ≠ B → A < 16 → B < 16 → (∀ p : Nat, p ≠ 1 → (∀ C : Nat, C < 16 → p ≠ 18 + 4 * C) → c0_sh f A B p = f p) ∧ (∀ j : Nat, j ≠ 14 → j ≠ 15 → c0_sh f A B 1 j = f 1 j) ∧ (∀ C : Nat, ∀ j : Nat, j ≠ 2 → j ≠ 3 → j ≠ 4 → j ≠ 8 → c0_sh f A B (18 + 4 * C) j = f (18 + 4 * C) j) := by
            intro A B hAB hA hB
            obtain ⟨⟨-, -, -, -, wAo⟩, ⟨-, -, -, -, wBo⟩, wp, wo, -, -⟩ := c0_sh_w (f := f) hAB
            refine ⟨fun p hp hC => wp p hp (hC A hA) (hC B hB), wo, fun C j b2 b3 b4 b8 => ?_⟩
            by_cases eA : C = A
            · subst eA
              exact wAo j b2 b3 b4 b8
            · by_cases eB : C = B
              · subst eB
                exact wBo j b2 b3 b4 b8
              · rw [wp _ (by omega) (by omega) (by omega)]
          rw [c0_shuttle_sh]
          split
          · split
            · exact one i (i + 1) (by omega) (by omega) (by omega)
            · exact one (i + 1) i (by omega) (by omega) (by omega)
          · exact ⟨fun _ _ _ => rfl, fun _ _ _ => rfl, fun _ _ _ _ _ _ => rfl⟩
        have loop : ∀ k : Nat, k ≤ (n - (r_goBalance_j48_0 fr).toInt.toNat) / 2 → (∀ p : Nat, p ≠ 1 → (∀ C : Nat, C < 16 → p ≠ 18 + 4 * C) → c0_balance_f67 fc k p = fc p) ∧ (∀ j : Nat, j ≠ 11 → j ≠ 13 → j ≠ 14 → j ≠ 15 → j ≠ 16 → c0_balance_f67 fc k 1 j = fc 1 j) ∧ (∀ C : Nat, C < n → ∀ j : Nat, j ≠ 2 → j ≠ 3 → j ≠ 4 → j ≠ 8 → c0_balance_f67 fc k (18 + 4 * C) j = fc (18 + 4 * C) j) ∧ (∀ C : Nat, C < n → ∀ w : Nat, w < 61 → w ≠ 1 → w ≠ 4 → r_goBalance_f57 fr k 280 (444 + 61 * C + w) = fr 280 (444 + 61 * C + w)) := by
          intro k
          induction k with
          | zero =>
            intro _
            refine ⟨fun p hp _ => zp p hp, fun j _ _ _ _ a16 => zc j a16, fun C hC j _ _ _ _ => ?_, fun C hC w hw w1 w4 => ?_⟩
            · show fl_row fc 1 _ (18 + 4 * C) j = _
              rw [fl_row_ne (by omega)]
            · show (if (fr 280 45).toInt = (1 : Int32).toInt then _ else _ : t2_F) 280 _ = _
              rw [if_neg m1]
              exact zr _ (by omega)
          | succ k ih =>
            intro hk
            obtain ⟨i1, i2, i3, i4⟩ := ih (by omega)
            obtain ⟨s1, s2, s3⟩ := shc (c0_balance_f67 fc k) ((c0_balance_j58_0 fc).toInt.toNat + 2 * k) (by rw [ej]; omega)
            refine ⟨fun p hp hC => ?_, fun j a11 a13 a14 a15 a16 => ?_, fun C hC j b2 b3 b4 b8 => ?_, fun C hC w hw w1 w4 => ?_⟩
            · exact (s1 p hp hC).trans (i1 p hp hC)
            · exact (s2 j a14 a15).trans (i2 j a11 a13 a14 a15 a16)
            · exact (s3 C j b2 b3 b4 b8).trans (i3 C hC j b2 b3 b4 b8)
            · show r_shuttle_m (r_goBalance_f57 fr k) _ _ 280 _ = _
              rw [r_shuttle_w (by omega) (by omega) (by omega) (by omega) (by omega) (by omega)]
              exact i4 C hC w hw w1 w4
        exact loop _ (Nat.le_refl _)
      · rw [if_neg m2, if_neg m2, if_neg m1]
        exact ⟨fun p hp _ => zp p hp, fun j _ _ _ _ a16 => zc j a16, fun C hC j _ _ _ _ => by rw [fl_row_ne (by omega)], fun C hC w hw w1 w4 => zr _ (by omega)⟩
  · rw [if_neg h6, if_neg h6]
    exact ⟨fun p hp _ => zp p hp, fun j _ _ _ _ a16 => zc j a16, fun C hC j _ _ _ _ => by rw [fl_row_ne (by omega)], fun C hC w hw w1 w4 => zr _ (by omega)⟩
/-! (6): the words that stay -/
theorem c0_measure_o (hn : (fc 1 5).toInt.toNat = n) : (∀ p : Nat, p ≠ 1 → p ≠ 4 → (∀ C : Nat, C < n → p ≠ 18 + 4 * C) → c0_sMeasure_m fc p = fc p) ∧ (∀ j : Nat, j ≠ 8 → j ≠ 12 → c0_sMeasure_m fc 1 j = fc 1 j) ∧ (∀ C : Nat, C < n → ∀ j : Nat, j ≠ 8 → j ≠ 11 → j ≠ 14 → j ≠ 15 → j ≠ 16 → j ≠ 17 → c0_sMeasure_m fc (18 + 4 * C) j = fc (18 + 4 * C) j) := by
  have row : ∀ p : Nat, p ≠ 1 → p ≠ 4 → c0_sMeasure_m fc p = c0_sMeasure_f46 fc n p := by
    intro p h1 h4
    unfold c0_sMeasure_m
    rw [hn]
    split
    · rw [c0_taper_fx h4, fl_row_ne h1]
    · rw [fl_row_ne h1]
  have row1 : ∀ j : Nat, j ≠ 8 → c0_sMeasure_m fc 1 j = c0_sMeasure_f46 fc n 1 j := by
    intro j h8
    unfold c0_sMeasure_m
    rw [hn]
    split
    · rw [c0_taper_fx (by decide), fl_row_self, upd_ne h8]
    · rw [fl_row_self, upd_ne h8]
  refine ⟨fun p h1 h4 hC => ?_, fun j h8 h12 => ?_, fun C hC j a8 a11 a14 a15 a16 a17 => ?_⟩
  · rw [row p h1 h4, c0_sMeasure_f46_fr (fun j hj => hC j hj), fl_row_ne h1]
  · rw [row1 j h8, c0_f46_1, upd_ne h12]
  · rw [row _ (by omega) (by omega)]
    by_cases hz : (c0_sMeasure_j35_0 fc).toInt = 0
    · exact (c0_f46_w0 hC hz).2.2.2 j a11 a14 a16
    · exact (c0_f46_w1 hC hz rfl).2.2.2.2.2.2 j a8 a11 a14 a15 a16 a17
end C0FRM

/-! ===== block 2: what the parts of a second leave alone ===== -/
section C2FRM
variable {fc fr f f' g F G A B : t2_F} {C n k : Nat} {c x y z : Int32}
theorem c2_slow_eq (hst : fc 181 7 = fr 280 3) (hb : fc 181 8 = fr 280 4) (hs : c2_Rs fc fr) (hp : c2_packAt_v fc (0 : Int32) = r_packCalm_v fr) (hj : c2_moveBus_j16_0 fc = r_goBus_j16_0 fr) : c2_moveBus_v fc = r_goBus_m fr 277 4 ∧ (r_goBus_m fr 277 4 = 0 ∨ r_goBus_m fr 277 4 = 1) ∧ ∀ j : Nat, j ≠ 4 → r_goBus_m fr 277 j = fr 277 j := by
  have s8 : fc 184 8 = fr 280 42 := hs 8 (by omega)
  unfold c2_moveBus_v r_goBus_m
  rw [hst, hb, hp, hj, s8, t2_m32 (r_goBus_j16_0 fr) (1000 : Int32)]
  by_cases h1 : (fr 280 3).toInt = (1 : Int32).toInt
  · by_cases h2 : ((1000 : Int32) * (r_goBus_j16_0 fr)).toInt < ((950 : Int32) * (r_packCalm_v fr)).toInt
    · by_cases h3 : ((r_goBus_j16_0 fr) - (fr 280 4)).toInt < (fr 280 42).toInt
      · simp only [if_pos h1, if_pos h2, if_pos h3]
        refine ⟨?_, Or.inr ?_, fun j hj => ?_⟩
        · rw [fl_row_self, upd_self]
        · rw [fl_row_self, upd_self]
        · rw [fl_row_self, upd_ne hj]
      · simp only [if_pos h1, if_pos h2, if_neg h3]
        refine ⟨?_, Or.inl ?_, fun j hj => ?_⟩
        · rw [fl_row_self, upd_self]
        · rw [fl_row_self, upd_self]
        · rw [fl_row_self, upd_ne hj]
    · simp only [if_pos h1, if_neg h2]
      refine ⟨?_, Or.inl ?_, fun j hj => ?_⟩
      · rw [fl_row_ne (by decide), fl_row_self, upd_self]
      · rw [fl_row_ne (by decide), fl_row_self, upd_self]
      · rw [fl_row_ne (by decide), fl_row_self, upd_ne hj]
  · simp only [if_neg h1]
    refine ⟨?_, Or.inl ?_, fun j hj => ?_⟩
    · rw [fl_row_self, upd_self]
    · rw [fl_row_self, upd_self]
    · rw [fl_row_self, upd_ne hj]
theorem c2_wear_o {i : Nat} {j : Nat} (h0 : j ≠ 0) (h8 : j ≠ 8) (h9 : j ≠ 9) : c2_wear_m f i x (198 + 4 * i) j = f (198 + 4 * i) j := by
  unfold c2_wear_m c2_putReckoned_m
  split
  · split
    · rfl
    · rw [fl_row_self, upd_ne h8, fl_row_self, upd_ne h9, upd_ne h0]
  · rfl
theorem c2_pass_o {i j : Nat} (hj : j = 1 ∨ j = 5 ∨ 10 ≤ j) : c2_pass_m f i x (198 + 4 * i) j = f (198 + 4 * i) j := by
  unfold c2_pass_m c2_putReckoned_m c2_putCharge_m
  rw [fl_row_self, upd_ne (by omega), fl_row_self, upd_ne (by omega), upd_ne (by omega), upd_ne (by omega), c2_wear_o (by omega) (by omega) (by omega), fl_row_self, upd_ne (by omega), upd_ne (by omega), upd_ne (by omega)]
theorem c2_cells_o (hn : (fc 181 5).toInt.toNat = n) (hC : C < n) {j : Nat} (hj : j = 1 ∨ j = 5 ∨ 10 ≤ j) : c2_passCells_m fc (198 + 4 * C) j = fc (198 + 4 * C) j := by
  unfold c2_passCells_m
  rw [c2_f35_o (by omega), hn, c2_f2_at hC, c2_pass_o hj, c2_passCells_f2_fr (k := C) (p := 198 + 4 * C) (fun j hj => by omega)]
theorem c2_cells_p {p : Nat} (hp : p < 198 ∨ ∀ C : Nat, C < 16 → p ≠ 198 + 4 * C) (hn : (fc 181 5).toInt.toNat ≤ 16) : c2_passCells_m fc p = fc p := by
  unfold c2_passCells_m
  rw [c2_passCells_f35_fr (fun j hj => by rcases hp with h | h; omega; exact h j (by omega)) (fun j hj => by rcases hp with h | h; omega; exact h (j + 1) (by omega)), c2_passCells_f2_fr (fun j hj => by rcases hp with h | h; omega; exact h j (by omega))]
/-! (4) -/
theorem c2_balance_o (hc : (fc 181 5).toInt.toNat = n) (hg : (fr 280 2).toInt.toNat = n) (hn : n ≤ 16) (h : c2_RB fc fr n) (hl : fc 190 3 = fr 280 6) (ht : fc 181 6 = fr 280 7) (ho : 0 ≤ (fr 280 47).toInt ∧ (fr 280 47).toInt ≤ 16) :
    (∀ p : Nat, p ≠ 181 → (∀ C : Nat, C < 16 → p ≠ 198 + 4 * C) → c2_balance_m fc p = fc p) ∧ (∀ j : Nat, j ≠ 11 → j ≠ 13 → j ≠ 14 → j ≠ 15 → j ≠ 16 → c2_balance_m fc 181 j = fc 181 j) ∧ (∀ C : Nat, C < n → ∀ j : Nat, j ≠ 2 → j ≠ 3 → j ≠ 4 → j ≠ 8 → c2_balance_m fc (198 + 4 * C) j = fc (198 + 4 * C) j) ∧ (∀ C : Nat, C < n → ∀ w : Nat, w < 61 → w ≠ 1 → w ≠ 4 → r_goBalance_m fr 280 (444 + 61 * C + w) = fr 280 (444 + 61 * C + w)) := by
  have c1 : (1 : Int32).toInt = 1 := by decide +kernel
  have c2 : (2 : Int32).toInt = 2 := by decide +kernel
  have s11 : fc 184 11 = fr 280 45 := h.1 11 (by omega)
  have zc : ∀ j : Nat, j ≠ 16 → (fl_row fc 181 (upd (fc 181) 16 (0 : Int32))) 181 j = fc 181 j := fun j hj => by rw [fl_row_self, upd_ne hj]
  have zp : ∀ p : Nat, p ≠ 181 → (fl_row fc 181 (upd (fc 181) 16 (0 : Int32))) p = fc p := fun p hp => fl_row_ne hp
  have zr : ∀ w : Nat, w ≠ 13 → (fl_row (fl_row fr 280 (upd (fr 280) 13 (0 : Int32))) 277 (upd (fr 277) 6 (0 : Int32))) 280 w = fr 280 w := fun w hw => by rw [fl_row_ne (by decide), fl_row_self, upd_ne hw]
  have hz : c2_RB (fl_row fc 181 (upd (fc 181) 16 (0 : Int32))) (fl_row (fl_row fr 280 (upd (fr 280) 13 (0 : Int32))) 277 (upd (fr 277) 6 (0 : Int32))) n := by
    obtain ⟨hs, hC, e14, e15, e11, e13, e16⟩ := h
    refine ⟨hs.congr (zp _ (by decide)) (fun k hk => zr _ (by omega)), fun C hC' => ⟨(hC C hC').1.congr (zp _ (by omega)) (fun k hk => zr _ (by omega)), by rw [zp _ (by omega)]; exact (hC C hC').2.1, c2_ck_congr (hC C hC').2.2 (zr _ (by omega)) (zr _ (by omega))⟩, ?_, ?_, ?_, ?_, ?_⟩
    · rw [zr 11 (by decide), zc 14 (by decide), e14]
    · rw [zr 12 (by decide), zc 15 (by decide), e15]
    · rw [zr 8 (by decide), zc 11 (by decide), e11]
    · rw [zr 10 (by decide), zc 13 (by decide), e13]
    · rw [fl_row_self, upd_self, fl_row_ne (by decide), fl_row_self, upd_self]
  unfold c2_balance_m r_goBalance_m
  rw [hl, s11]
  by_cases h6 : (fr 280 6).toInt = 0
  · rw [if_pos h6, if_pos h6]
    by_cases m1 : (fr 280 45).toInt = (1 : Int32).toInt
    · rw [if_pos m1, if_neg (show ¬ (fr 280 45).toInt = (2 : Int32).toInt by omega), if_pos m1]
      obtain ⟨si, gi⟩ := c2_shunt_two (n := n) (by rw [zc 5 (by decide)]; exact hc) (by rw [zr 2 (by decide)]; exact hg) hn hz (by rw [fl_row_self, upd_self]) (by rw [zr 47 (by decide)]; exact ho)
      obtain ⟨q1, q2, q3, q4, q5, q6⟩ := gi
      refine ⟨fun p hp hC => ?_, fun j a11 a13 a14 a15 a16 => ?_, fun C hC j b2 b3 b4 b8 => ?_, fun C hC w hw w1 w4 => ?_⟩
      · unfold c2_shuntCells_m
        have h5 := zc 5 (by decide)
        rw [c2_shuntCells_f95_fr (fun j hj => hp) (fun j hj => hC j (by rw [h5, hc] at hj; omega)), c2_shuntCells_gw hp, zp p hp]
      · rw [q5 j a11 a13 a16, zc j a16]
      · by_cases hb : t2_bt (r_shuntAll_m (fl_row (fl_row fr 280 (upd (fr 280) 13 (0 : Int32))) 277 (upd (fr 277) 6 (0 : Int32))) 280 13) C = true
        · rw [((q1 C hC).1 ⟨hC, hb⟩).2.2.2.2 j b2 b3 b4 b8, zp _ (by omega)]
        · rw [(q1 C hC).2 (fun q => hb q.2), zp _ (by omega)]
      · rw [si.2.2.1 _ (by omega) (by omega) (by omega) (fun D hD => ⟨by omega, by omega⟩), zr _ (by omega)]
    · rw [if_neg m1]
      by_cases m2 : (fr 280 45).toInt = (2 : Int32).toInt
      · rw [if_pos m2, if_pos m2]
        have ej : c2_balance_j58_0 fc = r_goBalance_j48_0 fr := by
          unfold c2_balance_j58_0 r_goBalance_j48_0
          rw [ht]
        rw [hc, hg, ej]
        have shc : ∀ (f : t2_F) (i : Nat), i + 1 < n → (∀ p : Nat, p ≠ 181 → (∀ C : Nat, C < 16 → p ≠ 198 + 4 * C) → c2_shuttle_m f i p = f p) ∧ (∀ j : Nat, j ≠ 14 → j ≠ 15 → c2_shuttle_m f i 181 j = f 181 j) ∧ (∀ C : Nat, ∀ j : Nat, j ≠ 2 → j ≠ 3 → j ≠ 4 → j ≠ 8 → c2_shuttle_m f i (198 + 4 * C) j = f (198 + 4 * C) j) := by
          intro f i hi
          have one : ∀ A B : Nat, A ≠ B → A < 16 → B < 16 → (∀ p : Nat, p ≠ 181 → (∀ C : Nat, C < 16 → p ≠ 198 + 4 * C) → c2_sh f A B p = f p) ∧ (∀ j : Nat, j ≠ 14 → j ≠ 15 → c2_sh f A B 181 j = f 181 j) ∧ (∀ C : Nat, ∀ j : Nat, j ≠ 2 → j ≠ 3 → j ≠ 4 → j ≠ 8 → c2_sh f A B (198 + 4 * C) j = f (198 + 4 * C) j) := by
            intro A B hAB hA hB
            obtain ⟨⟨-, -, -, -, wAo⟩, ⟨-, -, -, -, wBo⟩, wp, wo, -, -⟩ := c2_sh_w (f := f) hAB
            refine ⟨fun p hp hC => wp p hp (hC A hA) (hC B hB), wo, fun C j b2 b3 b4 b8 => ?_⟩
            by_cases eA : C = A
            · subst eA
              exact wAo j b2 b3 b4 b8
            · by_cases eB : C = B
              · subst eB
                exact wBo j b2 b3 b4 b8
              · rw [wp _ (by omega) (by omega) (by omega)]
          rw [c2_shuttle_sh]
          split
          · split
            · exact one i (i + 1) (by omega) (by omega) (by omega)
            · exact one (i + 1) i (by omega) (by omega) (by omega)
          · exact ⟨fun _ _ _ => rfl, fun _ _ _ => rfl, fun _ _ _ _ _ _ => rfl⟩
        have loop : ∀ k : Nat, k ≤ (n - (r_goBalance_j48_0 fr).toInt.toNat) / 2 → (∀ p : Nat, p ≠ 181 → (∀ C : Nat, C < 16 → p ≠ 198 + 4 * C) → c2_balance_f67 fc k p = fc p) ∧ (∀ j : Nat, j ≠ 11 → j ≠ 13 → j ≠ 14 → j ≠ 15 → j ≠ 16 → c2_balance_f67 fc k 181 j = fc 181 j) ∧ (∀ C : Nat, C < n → ∀ j : Nat, j ≠ 2 → j ≠ 3 → j ≠ 4 → j ≠ 8 → c2_balance_f67 fc k (198 + 4 * C) j = fc (198 + 4 * C) j) ∧ (∀ C : Nat, C < n → ∀ w : Nat, w < 61 → w ≠ 1 → w ≠ 4 → r_goBalance_f57 fr k 280 (444 + 61 * C + w) = fr 280 (444 + 61 * C + w)) := by
          intro k
          induction k with
          | zero =>
            intro _
            refine ⟨fun p hp _ => zp p hp, fun j _ _ _ _ a16 => zc j a16, fun C hC j _ _ _ _ => ?_, fun C hC w hw w1 w4 => ?_⟩
            · show fl_row fc 181 _ (198 + 4 * C) j = _
              rw [fl_row_ne (by omega)]
            · show (if (fr 280 45).toInt = (1 : Int32).toInt then _ else _ : t2_F) 280 _ = _
              rw [if_neg m1]
              exact zr _ (by omega)
          | succ k ih =>
            intro hk
            obtain ⟨i1, i2, i3, i4⟩ := ih (by omega)
            obtain ⟨s1, s2, s3⟩ := shc (c2_balance_f67 fc k) ((c2_balance_j58_0 fc).toInt.toNat + 2 * k) (by rw [ej]; omega)
            refine ⟨fun p hp hC => ?_, fun j a11 a13 a14 a15 a16 => ?_, fun C hC j b2 b3 b4 b8 => ?_, fun C hC w hw w1 w4 => ?_⟩
            · exact (s1 p hp hC).trans (i1 p hp hC)
            · exact (s2 j a14 a15).trans (i2 j a11 a13 a14 a15 a16)
            · exact (s3 C j b2 b3 b4 b8).trans (i3 C hC j b2 b3 b4 b8)
            · show r_shuttle_m (r_goBalance_f57 fr k) _ _ 280 _ = _
              rw [r_shuttle_w (by omega) (by omega) (by omega) (by omega) (by omega) (by omega)]
              exact i4 C hC w hw w1 w4
        exact loop _ (Nat.le_refl _)
      · rw [if_neg m2, if_neg m2, if_neg m1]
        exact ⟨fun p hp _ => zp p hp, fun j _ _ _ _ a16 => zc j a16, fun C hC j _ _ _ _ => by rw [fl_row_ne (by omega)], fun C hC w hw w1 w4 => zr _ (by omega)⟩
  · rw [if_neg h6, if_neg h6]
    exact ⟨fun p hp _ => zp p hp, fun j _ _ _ _ a16 => zc j a16, fun C hC j _ _ _ _ => by rw [fl_row_ne (by omega)], fun C hC w hw w1 w4 => zr _ (by omega)⟩
/-! (6): the words that stay -/
theorem c2_measure_o (hn : (fc 181 5).toInt.toNat = n) : (∀ p : Nat, p ≠ 181 → p ≠ 184 → (∀ C : Nat, C < n → p ≠ 198 + 4 * C) → c2_sMeasure_m fc p = fc p) ∧ (∀ j : Nat, j ≠ 8 → j ≠ 12 → c2_sMeasure_m fc 181 j = fc 181 j) ∧ (∀ C : Nat, C < n → ∀ j : Nat, j ≠ 8 → j ≠ 11 → j ≠ 14 → j ≠ 15 → j ≠ 16 → j ≠ 17 → c2_sMeasure_m fc (198 + 4 * C) j = fc (198 + 4 * C) j) := by
  have row : ∀ p : Nat, p ≠ 181 → p ≠ 184 → c2_sMeasure_m fc p = c2_sMeasure_f46 fc n p := by
    intro p h1 h4
    unfold c2_sMeasure_m
    rw [hn]
    split
    · rw [c2_taper_fx h4, fl_row_ne h1]
    · rw [fl_row_ne h1]
  have row1 : ∀ j : Nat, j ≠ 8 → c2_sMeasure_m fc 181 j = c2_sMeasure_f46 fc n 181 j := by
    intro j h8
    unfold c2_sMeasure_m
    rw [hn]
    split
    · rw [c2_taper_fx (by decide), fl_row_self, upd_ne h8]
    · rw [fl_row_self, upd_ne h8]
  refine ⟨fun p h1 h4 hC => ?_, fun j h8 h12 => ?_, fun C hC j a8 a11 a14 a15 a16 a17 => ?_⟩
  · rw [row p h1 h4, c2_sMeasure_f46_fr (fun j hj => hC j hj), fl_row_ne h1]
  · rw [row1 j h8, c2_f46_1, upd_ne h12]
  · rw [row _ (by omega) (by omega)]
    by_cases hz : (c2_sMeasure_j35_0 fc).toInt = 0
    · exact (c2_f46_w0 hC hz).2.2.2 j a11 a14 a16
    · exact (c2_f46_w1 hC hz rfl).2.2.2.2.2.2 j a8 a11 a14 a15 a16 a17
end C2FRM

end

/-! 94.23.ok.lean.txt -/
section
/-! ===== what the reference's words keep to (beside the ranges of at_Good) ===== -/
def t2_los : List Int := [3000, 2000, 200, -400, 1, 1, -400, 0, 0, 0, 0, 0, 0, 0, 0, 0, 0, 1, -999, 1, -99999, 1, 0, 0, 0, 0, 0, 0, 0, 0]
def t2_his : List Int := [4500, 3700, 900, 200, 99999, 999, 600, 9999, 9999, 99999, 9999, 2, 9999, 16, 999, 99999, 100, 2000, 999, 99, 99999, 99, 64, 4500, 9999, 99, 200, 999, 999, 1]
def t2_lo (k : Nat) : Int := t2_los.getD k 0
def t2_hi (k : Nat) : Int := t2_his.getD k 0
/-- a cell's words -/
def t2_OC (g : Nat → Int32) (C : Nat) : Prop :=
  (t2_cap (g (444 + 61 * C + 0)) ∧ 0 ≤ (g (444 + 61 * C + 1)).toInt ∧ (g (444 + 61 * C + 1)).toInt ≤ 3600 * (g (444 + 61 * C + 0)).toInt) ∧
  (0 ≤ (g (444 + 61 * C + 2)).toInt ∧ (g (444 + 61 * C + 2)).toInt ≤ 99) ∧
  (0 ≤ (g (444 + 61 * C + 4)).toInt ∧ (g (444 + 61 * C + 4)).toInt ≤ 3600 * (g (444 + 61 * C + 0)).toInt) ∧
  (0 ≤ (g (444 + 61 * C + 5)).toInt ∧ (g (444 + 61 * C + 5)).toInt ≤ 99999 * (g 7).toInt) ∧
  (-10000 ≤ (g (444 + 61 * C + 9)).toInt ∧ (g (444 + 61 * C + 9)).toInt ≤ 10000) ∧
  (g (444 + 61 * C + 15) = 0 ∨ g (444 + 61 * C + 15) = 1) ∧
  (-1 ≤ (g (444 + 61 * C + 16)).toInt ∧ (g (444 + 61 * C + 16)).toInt ≤ 1000) ∧
  r_alt (fun _ => g) C
def t2_OK (g : Nat → Int32) : Prop :=
  (∀ k : Nat, k < 30 → t2_lo k ≤ (g (34 + k)).toInt ∧ (g (34 + k)).toInt ≤ t2_hi k) ∧
  ((-99999 ≤ (g 5).toInt ∧ (g 5).toInt ≤ 99999) ∧ (-1000000 ≤ (g 4).toInt ∧ (g 4).toInt ≤ 1000000) ∧ (0 ≤ (g 2).toInt ∧ (g 2).toInt ≤ 16) ∧ (0 ≤ (g 7).toInt ∧ (g 7).toInt ≤ 9999)) ∧
  (∀ k : Nat, k < 3 → t2_how (g (64 + k))) ∧
  ((0 ≤ (g 17).toInt ∧ (g 17).toInt ≤ 6) ∧ ∀ k : Nat, k < 6 → 0 ≤ (g (67 + 2 * k + 1)).toInt) ∧
  ((0 ≤ (g 18).toInt ∧ (g 18).toInt ≤ 8) ∧ (∀ k : Nat, k < 8 → 0 ≤ (g ((79 + (5 * k)) + 3)).toInt ∧ (g ((79 + (5 * k)) + 3)).toInt ≤ 29) ∧ ∀ k : Nat, (k : Int) < (g 18).toInt → t2_lo (g ((79 + (5 * k)) + 3)).toInt.toNat ≤ (g ((79 + (5 * k)) + 4)).toInt ∧ (g ((79 + (5 * k)) + 4)).toInt ≤ t2_hi (g ((79 + (5 * k)) + 3)).toInt.toNat) ∧
  ((0 ≤ (g 19).toInt ∧ (g 19).toInt ≤ 24) ∧ ∀ k : Nat, (k : Int) < (g 19).toInt → (-99999 ≤ (g (119 + 2 * k)).toInt ∧ (g (119 + 2 * k)).toInt ≤ 99999) ∧ (1 ≤ (g (119 + 2 * k + 1)).toInt ∧ (g (119 + 2 * k + 1)).toInt ≤ 99)) ∧
  ((0 ≤ (g 16).toInt ∧ (g 16).toInt ≤ 2) ∧ (0 ≤ (g 20).toInt ∧ (g 20).toInt ≤ 24) ∧ (0 ≤ (g 21).toInt ∧ (g 21).toInt ≤ 32)) ∧
  ∀ C : Nat, (C : Int) < (g 2).toInt → t2_OC g C
/-- bounds of what the cells tell together -/
theorem r_rest_b {x : Int32} : 0 ≤ (t2_rb x).toInt ∧ (t2_rb x).toInt ≤ 4700 := by
  rw [t2_rbi]
  exact t2_rvb _
theorem r_calm_b {f : t2_F} {c : Int32} {C : Nat} (h : -10000 ≤ (f 280 (444 + 61 * C + 9)).toInt ∧ (f 280 (444 + 61 * C + 9)).toInt ≤ 10000) : -10000 ≤ (r_calmVolts_v f c C).toInt ∧ (r_calmVolts_v f c C).toInt ≤ 14700 := by
  have r := r_rest_b (x := r_partOf_v f c C)
  unfold r_calmVolts_v
  rw [at_add32 (by omega) (by omega)]
  omega
theorem r_packCalm_b {f : t2_F} {n : Nat} (hn : n ≤ 16) (h : ∀ C : Nat, C < n → -10000 ≤ (f 280 (444 + 61 * C + 9)).toInt ∧ (f 280 (444 + 61 * C + 9)).toInt ≤ 10000) : -10000 * (n : Int) ≤ (r_packCalm_a4 f n).toInt ∧ (r_packCalm_a4 f n).toInt ≤ 14700 * (n : Int) := by
  have e0 : (0 : Int32).toInt = 0 := rfl
  induction n with
  | zero => exact ⟨by show _ ≤ (0 : Int32).toInt; omega, by show (0 : Int32).toInt ≤ _; omega⟩
  | succ n ih =>
    have i := ih (by omega) (fun C hC => h C (by omega))
    have v := r_calm_b (c := Int32.ofNat n) (h n (by omega))
    show _ ≤ (r_packCalm_a4 f n + r_calmVolts_v f (Int32.ofNat n) n).toInt ∧ _
    have e : (r_packCalm_a4 f n + r_calmVolts_v f (Int32.ofNat n) n).toInt = (r_packCalm_a4 f n).toInt + (r_calmVolts_v f (Int32.ofNat n) n).toInt := at_add32 (by omega) (by omega)
    refine ⟨by omega, ?_⟩
    show (r_packCalm_a4 f n + r_calmVolts_v f (Int32.ofNat n) n).toInt ≤ _
    omega
theorem r_drop_b {x o : Int32} (hx : -99999 ≤ x.toInt ∧ x.toInt ≤ 99999) (ho : 0 ≤ o.toInt ∧ o.toInt ≤ 99) : -9900 ≤ (r_floor_v (x * o) (1000 : Int32)).toInt ∧ (r_floor_v (x * o) (1000 : Int32)).toInt ≤ 9900 := by
  have c1000 : (1000 : Int32).toInt = 1000 := by decide +kernel
  have c1 : (1 : Int32).toInt = 1 := by decide +kernel
  have a1 : x.toInt * o.toInt ≤ 99999 * 99 := Int.le_trans (Int.mul_le_mul_of_nonneg_right hx.2 ho.1) (Int.mul_le_mul_of_nonneg_left ho.2 (by omega))
  have a2 : (-99999) * o.toInt ≤ x.toInt * o.toInt := Int.mul_le_mul_of_nonneg_right hx.1 ho.1
  have e : (x * o).toInt = x.toInt * o.toInt := at_mul32 (by omega) (by omega)
  generalize hy : x * o = y at *
  unfold r_floor_v
  by_cases h : y.toInt < 0
  · rw [if_pos h]
    have e1 : (((1000 : Int32) - (1 : Int32)) - y).toInt = 999 - y.toInt := by
      have q : ((1000 : Int32) - (1 : Int32)).toInt = 999 := by decide +kernel
      rw [at_sub32 (by rw [q]; omega) (by rw [q]; omega), q]
    have e2 : ((((1000 : Int32) - (1 : Int32)) - y) / (1000 : Int32)).toInt = (999 - y.toInt) / 1000 := by rw [at_div32 (by omega) (by omega), e1, c1000]
    rw [Int32.toInt_neg, e2, Int.bmod_eq_of_le (by omega) (by omega)]
    omega
  · rw [if_neg h, at_div32 (by omega) (by omega), c1000]
    omega
theorem r_volts_b {f : t2_F} {c : Int32} {C : Nat} (hx : -99999 ≤ (f 280 5).toInt ∧ (f 280 5).toInt ≤ 99999) (ho : 0 ≤ (f 280 (444 + 61 * C + 2)).toInt ∧ (f 280 (444 + 61 * C + 2)).toInt ≤ 99) (h : -10000 ≤ (f 280 (444 + 61 * C + 9)).toInt ∧ (f 280 (444 + 61 * C + 9)).toInt ≤ 10000) : -19900 ≤ (r_voltsOf_v f c C).toInt ∧ (r_voltsOf_v f c C).toInt ≤ 24600 := by
  have a := r_calm_b (c := c) h
  have b := r_drop_b hx ho
  unfold r_voltsOf_v
  rw [at_add32 (by omega) (by omega)]
  omega
theorem r_pack_b {f : t2_F} {n : Nat} (hn : n ≤ 16) (hx : -99999 ≤ (f 280 5).toInt ∧ (f 280 5).toInt ≤ 99999) (h : ∀ C : Nat, C < n → (0 ≤ (f 280 (444 + 61 * C + 2)).toInt ∧ (f 280 (444 + 61 * C + 2)).toInt ≤ 99) ∧ -10000 ≤ (f 280 (444 + 61 * C + 9)).toInt ∧ (f 280 (444 + 61 * C + 9)).toInt ≤ 10000) : -19900 * (n : Int) ≤ (r_pack_a4 f n).toInt ∧ (r_pack_a4 f n).toInt ≤ 24600 * (n : Int) := by
  have e0 : (0 : Int32).toInt = 0 := rfl
  induction n with
  | zero => exact ⟨by show _ ≤ (0 : Int32).toInt; omega, by show (0 : Int32).toInt ≤ _; omega⟩
  | succ n ih =>
    have i := ih (by omega) (fun C hC => h C (by omega))
    have v := r_volts_b (c := Int32.ofNat n) hx (h n (by omega)).1 (h n (by omega)).2
    have e : (r_pack_a4 f n + r_voltsOf_v f (Int32.ofNat n) n).toInt = (r_pack_a4 f n).toInt + (r_voltsOf_v f (Int32.ofNat n) n).toInt := at_add32 (by omega) (by omega)
    show _ ≤ (r_pack_a4 f n + r_voltsOf_v f (Int32.ofNat n) n).toInt ∧ _
    refine ⟨by omega, ?_⟩
    show (r_pack_a4 f n + r_voltsOf_v f (Int32.ofNat n) n).toInt ≤ _
    omega

end

/-! 94.24.rel.lean.txt -/
section
/-! ===== block 0: THE RELATION ===== -/
section C0REL
variable {fc fr fc' fr' : t2_F} {C : Nat}
/-- what is told: contactors, zones, rules, prices, pieces -/
def c0_GT (fc fr : t2_F) : Prop := c0_Rk fc fr ∧ c0_Rz fc fr ∧ c0_Rr fc fr ∧ (∀ k : Nat, k < 24 → fc 6 k = fr 280 (315 + k)) ∧ fc 3 7 = fr 280 19 ∧ ∀ j : Nat, (j : Int) < 2 * (fr 280 19).toInt → fc 8 j = fr 280 (119 + j)
theorem c0_GT.congr (h : c0_GT fc fr) (hn : (fr 280 19).toInt ≤ 24) (e3 : fc' 3 = fc 3) (e5 : fc' 5 = fc 5) (e6 : fc' 6 = fc 6) (e7 : fc' 7 = fc 7) (e8 : fc' 8 = fc 8) (e9 : fc' 9 = fc 9) (e : ∀ w : Nat, ((17 ≤ w ∧ w ≤ 19) ∨ (64 ≤ w ∧ w < 167) ∨ (315 ≤ w ∧ w < 339)) → fr' 280 w = fr 280 w) : c0_GT fc' fr' := by
  obtain ⟨h1, h2, h3, h4, h5, h6⟩ := h
  refine ⟨h1.congr e5 (fun k hk => e _ (by omega)), h2.congr e3 e7 (e _ (by omega)) (fun k hk => e _ (by omega)), ?_, fun k hk => ?_, ?_, fun j hj => ?_⟩
  · obtain ⟨a, b, d⟩ := h3
    unfold c0_Rr
    rw [e3, e9, e 18 (by omega)]
    exact ⟨a, b, fun j hj => by rw [e _ (by omega)]; exact d j hj⟩
  · rw [e6, e _ (by omega)]
    exact h4 k hk
  · rw [e3, e 19 (by omega)]
    exact h5
  · rw [e 19 (by omega)] at hj
    rw [e8, e _ (by omega)]
    exact h6 j hj
/-- the watch -/
def c0_GW (fc fr : t2_F) : Prop := (fc 10 3 = fr 280 6 ∧ fc 10 4 = fr 280 22 ∧ fc 10 5 = fr 280 15 ∧ ((fc 10 6).toInt = min (fr 280 16).toInt 1 ∧ 0 ≤ (fr 280 16).toInt ∧ (fr 280 16).toInt ≤ 2)) ∧ (∀ j : Nat, j < 11 → fc 11 j = fr 280 (23 + j)) ∧ (∀ j : Nat, j < 4 → fc 12 j = fr 280 (311 + j)) ∧ c0_Bk fc fr
theorem c0_GW.congr (h : c0_GW fc fr) (e10 : fc' 10 = fc 10) (e11 : fc' 11 = fc 11) (e12 : fc' 12 = fc 12) (e13 : fc' 13 = fc 13) (e14 : fc' 14 = fc 14) (e : ∀ w : Nat, (w = 6 ∨ w = 15 ∨ w = 16 ∨ w = 20 ∨ (22 ≤ w ∧ w < 34) ∨ (167 ≤ w ∧ w < 215) ∨ (311 ≤ w ∧ w < 315)) → fr' 280 w = fr 280 w) : c0_GW fc' fr' := by
  obtain ⟨h1, h2, h3, h4⟩ := h
  refine ⟨?_, fun j hj => ?_, fun j hj => ?_, h4.congr e13 e14 (fun w hw => e w (by omega))⟩
  · rw [e10, e 6 (by omega), e 22 (by omega), e 15 (by omega), e 16 (by omega)]
    exact h1
  · rw [e11, e _ (by omega)]
    exact h2 j hj
  · rw [e12, e _ (by omega)]
    exact h3 j hj
/-- marks -/
def c0_GM (fc fr : t2_F) : Prop := ∀ m : Nat, m < 3 → fc (82 + 3 * m) 2 = fr 280 (339 + 35 * m + 2) ∧ (0 ≤ (fr 280 (339 + 35 * m + 2)).toInt ∧ (fr 280 (339 + 35 * m + 2)).toInt ≤ 16) ∧ (0 < (fr 280 (339 + 35 * m + 2)).toInt → fr 280 (339 + 35 * m) = 1 ∧ fc (82 + 3 * m) 3 = fr 280 (339 + 35 * m + 1)) ∧ ∀ c : Nat, (c : Int) < (fr 280 (339 + 35 * m + 2)).toInt → fc (83 + 3 * m) c = fr 280 (339 + 35 * m + 3 + c) ∧ fc (84 + 3 * m) c = fr 280 (339 + 35 * m + 19 + c)
theorem c0_GM.congr (h : c0_GM fc fr) (ep : ∀ p : Nat, (82 ≤ p ∧ p < 91) → fc' p = fc p) (e : ∀ w : Nat, (339 ≤ w ∧ w < 444) → fr' 280 w = fr 280 w) : c0_GM fc' fr' := by
  intro m hm
  obtain ⟨h1, h2, h3, h4⟩ := h m hm
  rw [ep _ (by omega), ep _ (by omega), ep _ (by omega), e _ (by omega), e _ (by omega), e _ (by omega)]
  exact ⟨h1, h2, h3, fun c hc => by rw [e _ (by omega), e _ (by omega)]; exact h4 c hc⟩
/-- a cell beside what Rc says -/
def c0_GC (fc fr : t2_F) (C : Nat) : Prop := c0_Rm fc fr C ∧ (fc (18 + 4 * C) 10 = fr 280 (444 + 61 * C + 15) ∧ (fr 280 (444 + 61 * C + 15) = 1 → fc (18 + 4 * C) 11 = fr 280 (444 + 61 * C + 14))) ∧ c0_Rh fc fr C ∧ c0_TI fc fr C
theorem c0_GC.congr (h : c0_GC fc fr C) (e1 : ∀ j : Nat, 10 ≤ j → j < 18 → fc' (18 + 4 * C) j = fc (18 + 4 * C) j) (ep : ∀ p : Nat, (p = 19 + 4 * C ∨ p = 20 + 4 * C ∨ p = 21 + 4 * C) → fc' p = fc p) (e : ∀ w : Nat, (w = 7 ∨ w = 8 ∨ (10 ≤ w ∧ w < 60)) → fr' 280 (444 + 61 * C + w) = fr 280 (444 + 61 * C + w)) : c0_GC fc' fr' C := by
  obtain ⟨⟨a1, a2, a3, a4⟩, ⟨b1, b2⟩, hr, ht⟩ := h
  refine ⟨⟨?_, ?_, ?_, ?_⟩, ⟨?_, fun q => ?_⟩, ?_, ht.congr (ep _ (by omega)) (ep _ (by omega)) (ep _ (by omega)) (fun w h1 h2 _ _ _ _ _ _ => ?_)⟩
  · rw [e1 14 (by decide) (by decide), e 11 (by omega), a1]
  · rw [e1 15 (by decide) (by decide), e 12 (by omega), a2]
  · rw [e1 16 (by decide) (by decide), e 13 (by omega), a3]
  · rw [e1 17 (by decide) (by decide), e 16 (by omega), a4]
  · rw [e1 10 (by decide) (by decide), e 15 (by omega), b1]
  · rw [e 15 (by omega)] at q
    rw [e1 11 (by decide) (by decide), e 14 (by omega), b2 q]
  · unfold c0_Rh
    rw [e1 10 (by decide) (by decide), e1 12 (by decide) (by decide), e1 13 (by decide) (by decide), e 7 (by omega), e 8 (by omega)]
    exact hr
  · exact e w (by omega)
/-- scalars -/
def c0_GS (fc fr : t2_F) : Prop := (fc 1 5 = fr 280 2 ∧ fc 1 6 = fr 280 7 ∧ fc 1 7 = fr 280 3 ∧ fc 1 8 = fr 280 4) ∧ (fc 1 9 = fr 280 5 ∧ fc 1 10 = fr 280 14 ∧ fc 1 11 = fr 280 8 ∧ fc 1 12 = fr 280 9) ∧ fc 1 13 = fr 280 10 ∧ fc 1 14 = fr 280 11 ∧ fc 1 15 = fr 280 12 ∧ fc 1 16 = fr 280 13
/-- THE RELATION of a state of the class and a row of the reference -/
def c0_R (fc fr : t2_F) : Prop := c0_GS fc fr ∧ c0_Rs fc fr ∧ c0_GT fc fr ∧ c0_GW fc fr ∧ c0_Tr fc fr ∧ c0_GM fc fr ∧ ∀ C : Nat, (C : Int) < (fr 280 2).toInt → c0_Rc fc fr C ∧ c0_GC fc fr C
end C0REL

/-! ===== block 2: THE RELATION ===== -/
section C2REL
variable {fc fr fc' fr' : t2_F} {C : Nat}
def c2_GT (fc fr : t2_F) : Prop := c2_Rk fc fr ∧ c2_Rz fc fr ∧ c2_Rr fc fr ∧ (∀ k : Nat, k < 24 → fc 186 k = fr 280 (315 + k)) ∧ fc 183 7 = fr 280 19 ∧ ∀ j : Nat, (j : Int) < 2 * (fr 280 19).toInt → fc 188 j = fr 280 (119 + j)
theorem c2_GT.congr (h : c2_GT fc fr) (hn : (fr 280 19).toInt ≤ 24) (e3 : fc' 183 = fc 183) (e5 : fc' 185 = fc 185) (e6 : fc' 186 = fc 186) (e7 : fc' 187 = fc 187) (e8 : fc' 188 = fc 188) (e9 : fc' 189 = fc 189) (e : ∀ w : Nat, ((17 ≤ w ∧ w ≤ 19) ∨ (64 ≤ w ∧ w < 167) ∨ (315 ≤ w ∧ w < 339)) → fr' 280 w = fr 280 w) : c2_GT fc' fr' := by
  obtain ⟨h1, h2, h3, h4, h5, h6⟩ := h
  refine ⟨h1.congr e5 (fun k hk => e _ (by omega)), h2.congr e3 e7 (e _ (by omega)) (fun k hk => e _ (by omega)), ?_, fun k hk => ?_, ?_, fun j hj => ?_⟩
  · obtain ⟨a, b, d⟩ := h3
    unfold c2_Rr
    rw [e3, e9, e 18 (by omega)]
    exact ⟨a, b, fun j hj => by rw [e _ (by omega)]; exact d j hj⟩
  · rw [e6, e _ (by omega)]
    exact h4 k hk
  · rw [e3, e 19 (by omega)]
    exact h5
  · rw [e 19 (by omega)] at hj
    rw [e8, e _ (by omega)]
    exact h6 j hj
def c2_GW (fc fr : t2_F) : Prop := (fc 190 3 = fr 280 6 ∧ fc 190 4 = fr 280 22 ∧ fc 190 5 = fr 280 15 ∧ ((fc 190 6).toInt = min (fr 280 16).toInt 1 ∧ 0 ≤ (fr 280 16).toInt ∧ (fr 280 16).toInt ≤ 2)) ∧ (∀ j : Nat, j < 11 → fc 191 j = fr 280 (23 + j)) ∧ (∀ j : Nat, j < 4 → fc 192 j = fr 280 (311 + j)) ∧ c2_Bk fc fr
theorem c2_GW.congr (h : c2_GW fc fr) (e10 : fc' 190 = fc 190) (e11 : fc' 191 = fc 191) (e12 : fc' 192 = fc 192) (e13 : fc' 193 = fc 193) (e14 : fc' 194 = fc 194) (e : ∀ w : Nat, (w = 6 ∨ w = 15 ∨ w = 16 ∨ w = 20 ∨ (22 ≤ w ∧ w < 34) ∨ (167 ≤ w ∧ w < 215) ∨ (311 ≤ w ∧ w < 315)) → fr' 280 w = fr 280 w) : c2_GW fc' fr' := by
  obtain ⟨h1, h2, h3, h4⟩ := h
  refine ⟨?_, fun j hj => ?_, fun j hj => ?_, h4.congr e13 e14 (fun w hw => e w (by omega))⟩
  · rw [e10, e 6 (by omega), e 22 (by omega), e 15 (by omega), e 16 (by omega)]
    exact h1
  · rw [e11, e _ (by omega)]
    exact h2 j hj
  · rw [e12, e _ (by omega)]
    exact h3 j hj
def c2_GM (fc fr : t2_F) : Prop := ∀ m : Nat, m < 3 → fc (262 + 3 * m) 2 = fr 280 (339 + 35 * m + 2) ∧ (0 ≤ (fr 280 (339 + 35 * m + 2)).toInt ∧ (fr 280 (339 + 35 * m + 2)).toInt ≤ 16) ∧ (0 < (fr 280 (339 + 35 * m + 2)).toInt → fr 280 (339 + 35 * m) = 1 ∧ fc (262 + 3 * m) 3 = fr 280 (339 + 35 * m + 1)) ∧ ∀ c : Nat, (c : Int) < (fr 280 (339 + 35 * m + 2)).toInt → fc (263 + 3 * m) c = fr 280 (339 + 35 * m + 3 + c) ∧ fc (264 + 3 * m) c = fr 280 (339 + 35 * m + 19 + c)
theorem c2_GM.congr (h : c2_GM fc fr) (ep : ∀ p : Nat, (262 ≤ p ∧ p < 271) → fc' p = fc p) (e : ∀ w : Nat, (339 ≤ w ∧ w < 444) → fr' 280 w = fr 280 w) : c2_GM fc' fr' := by
  intro m hm
  obtain ⟨h1, h2, h3, h4⟩ := h m hm
  rw [ep _ (by omega), ep _ (by omega), ep _ (by omega), e _ (by omega), e _ (by omega), e _ (by omega)]
  exact ⟨h1, h2, h3, fun c hc => by rw [e _ (by omega), e _ (by omega)]; exact h4 c hc⟩
def c2_GC (fc fr : t2_F) (C : Nat) : Prop := c2_Rm fc fr C ∧ (fc (198 + 4 * C) 10 = fr 280 (444 + 61 * C + 15) ∧ (fr 280 (444 + 61 * C + 15) = 1 → fc (198 + 4 * C) 11 = fr 280 (444 + 61 * C + 14))) ∧ c2_Rh fc fr C ∧ c2_TI fc fr C
theorem c2_GC.congr (h : c2_GC fc fr C) (e1 : ∀ j : Nat, 10 ≤ j → j < 18 → fc' (198 + 4 * C) j = fc (198 + 4 * C) j) (ep : ∀ p : Nat, (p = 199 + 4 * C ∨ p = 200 + 4 * C ∨ p = 201 + 4 * C) → fc' p = fc p) (e : ∀ w : Nat, (w = 7 ∨ w = 8 ∨ (10 ≤ w ∧ w < 60)) → fr' 280 (444 + 61 * C + w) = fr 280 (444 + 61 * C + w)) : c2_GC fc' fr' C := by
  obtain ⟨⟨a1, a2, a3, a4⟩, ⟨b1, b2⟩, hr, ht⟩ := h
  refine ⟨⟨?_, ?_, ?_, ?_⟩, ⟨?_, fun q => ?_⟩, ?_, ht.congr (ep _ (by omega)) (ep _ (by omega)) (ep _ (by omega)) (fun w h1 h2 _ _ _ _ _ _ => ?_)⟩
  · rw [e1 14 (by decide) (by decide), e 11 (by omega), a1]
  · rw [e1 15 (by decide) (by decide), e 12 (by omega), a2]
  · rw [e1 16 (by decide) (by decide), e 13 (by omega), a3]
  · rw [e1 17 (by decide) (by decide), e 16 (by omega), a4]
  · rw [e1 10 (by decide) (by decide), e 15 (by omega), b1]
  · rw [e 15 (by omega)] at q
    rw [e1 11 (by decide) (by decide), e 14 (by omega), b2 q]
  · unfold c2_Rh
    rw [e1 10 (by decide) (by decide), e1 12 (by decide) (by decide), e1 13 (by decide) (by decide), e 7 (by omega), e 8 (by omega)]
    exact hr
  · exact e w (by omega)
def c2_GS (fc fr : t2_F) : Prop := (fc 181 5 = fr 280 2 ∧ fc 181 6 = fr 280 7 ∧ fc 181 7 = fr 280 3 ∧ fc 181 8 = fr 280 4) ∧ (fc 181 9 = fr 280 5 ∧ fc 181 10 = fr 280 14 ∧ fc 181 11 = fr 280 8 ∧ fc 181 12 = fr 280 9) ∧ fc 181 13 = fr 280 10 ∧ fc 181 14 = fr 280 11 ∧ fc 181 15 = fr 280 12 ∧ fc 181 16 = fr 280 13
def c2_R (fc fr : t2_F) : Prop := c2_GS fc fr ∧ c2_Rs fc fr ∧ c2_GT fc fr ∧ c2_GW fc fr ∧ c2_Tr fc fr ∧ c2_GM fc fr ∧ ∀ C : Nat, (C : Int) < (fr 280 2).toInt → c2_Rc fc fr C ∧ c2_GC fc fr C
end C2REL

end

/-! 94.25.oks.lean.txt -/
section
/-! ===== what the reference's second keeps in bounds ===== -/
section OKS
variable {f F G : t2_F} {g g' : Nat → Int32} {C n : Nat} {c x : Int32}
theorem t2_OK.upd (h : t2_OK g) (e : ∀ w : Nat, (w = 2 ∨ (17 ≤ w ∧ w < 20) ∨ (64 ≤ w ∧ w < 167)) → g' w = g w) (hs : ∀ k : Nat, k < 30 → t2_lo k ≤ (g' (34 + k)).toInt ∧ (g' (34 + k)).toInt ≤ t2_hi k) (h5 : -99999 ≤ (g' 5).toInt ∧ (g' 5).toInt ≤ 99999) (h4 : -1000000 ≤ (g' 4).toInt ∧ (g' 4).toInt ≤ 1000000) (h7 : 0 ≤ (g' 7).toInt ∧ (g' 7).toInt ≤ 9999) (hw : (0 ≤ (g' 16).toInt ∧ (g' 16).toInt ≤ 2) ∧ (0 ≤ (g' 20).toInt ∧ (g' 20).toInt ≤ 24) ∧ (0 ≤ (g' 21).toInt ∧ (g' 21).toInt ≤ 32)) (hc : ∀ C : Nat, (C : Int) < (g 2).toInt → t2_OC g' C) : t2_OK g' := by
  obtain ⟨-, ⟨-, -, a2, -⟩, b, ⟨d1, d2⟩, ⟨e1, e2, e3⟩, ⟨i1, i2⟩, -, -⟩ := h
  refine ⟨hs, ⟨h5, h4, by rw [e 2 (by omega)]; exact a2, h7⟩, fun k hk => by rw [e _ (by omega)]; exact b k hk, ⟨by rw [e 17 (by omega)]; exact d1, fun k hk => by rw [e _ (by omega)]; exact d2 k hk⟩, ⟨by rw [e 18 (by omega)]; exact e1, fun k hk => by rw [e _ (by omega)]; exact e2 k hk, fun k hk => ?_⟩, ⟨by rw [e 19 (by omega)]; exact i1, fun k hk => ?_⟩, hw, fun C hC => hc C (by rw [e 2 (by omega)] at hC; exact hC)⟩
  · rw [e 18 (by omega)] at hk
    rw [e _ (by omega), e _ (by omega)]
    exact e3 k hk
  · rw [e 19 (by omega)] at hk
    rw [e _ (by omega), e _ (by omega)]
    exact i2 k hk
theorem t2_OC.congr (h : t2_OC g C) (e : ∀ w : Nat, (w < 3 ∨ w = 4 ∨ w = 5 ∨ w = 9 ∨ w = 10 ∨ (15 ≤ w ∧ w < 49)) → g' (444 + 61 * C + w) = g (444 + 61 * C + w)) (h7 : (g 7).toInt ≤ (g' 7).toInt) : t2_OC g' C := by
  obtain ⟨a, b, d, i, j, k, l, m⟩ := h
  refine ⟨?_, ?_, ?_, ?_, ?_, ?_, ?_, m.congr (fun w hw => e w (by omega))⟩
  · rw [e 0 (by omega), e 1 (by omega)]
    exact a
  · rw [e 2 (by omega)]
    exact b
  · rw [e 0 (by omega), e 4 (by omega)]
    exact d
  · rw [e 5 (by omega)]
    omega
  · rw [e 9 (by omega)]
    exact j
  · rw [e 15 (by omega)]
    exact k
  · rw [e 16 (by omega)]
    exact l
/-- reckoned within the cell -/
def r_P4 (f : t2_F) (C : Nat) : Prop := t2_cap (f 280 (444 + 61 * C + 0)) ∧ 0 ≤ (f 280 (444 + 61 * C + 4)).toInt ∧ (f 280 (444 + 61 * C + 4)).toInt ≤ 3600 * (f 280 (444 + 61 * C + 0)).toInt
theorem r_P4_c (h : r_P4 f C) (e0 : G 280 (444 + 61 * C + 0) = f 280 (444 + 61 * C + 0)) (e4 : G 280 (444 + 61 * C + 4) = f 280 (444 + 61 * C + 4)) : r_P4 G C := by
  unfold r_P4
  rw [e0, e4]
  exact h
theorem r_P4_held {v : Int32} (h : t2_cap (f 280 (444 + 61 * C + 0))) (e0 : G 280 (444 + 61 * C + 0) = f 280 (444 + 61 * C + 0)) (e4 : G 280 (444 + 61 * C + 4) = r_held_v v (0 : Int32) ((3600 : Int32) * f 280 (444 + 61 * C + 0))) : r_P4 G C := by
  have hf := t2_full_r h
  have c0 : (0 : Int32).toInt = 0 := rfl
  have b : (0 : Int32).toInt ≤ (r_held_v v (0 : Int32) ((3600 : Int32) * f 280 (444 + 61 * C + 0))).toInt ∧ (r_held_v v (0 : Int32) ((3600 : Int32) * f 280 (444 + 61 * C + 0))).toInt ≤ ((3600 : Int32) * f 280 (444 + 61 * C + 0)).toInt := t2_heldTo_b (v := v) (lo := (0 : Int32)) (hi := (3600 : Int32) * f 280 (444 + 61 * C + 0)) (by have := h.1; omega)
  unfold r_P4
  rw [e0, e4]
  exact ⟨h, by omega, by omega⟩
theorem r_sh_P4 {cA cB : Int32} {A B : Nat} (hAB : A ≠ B) (h : r_P4 f C) : r_P4 (r_sh f cA cB A B) C := by
  obtain ⟨⟨-, wA⟩, ⟨-, wB⟩, o, -, -⟩ := r_sh_w (f := f) (cA := cA) (cB := cB) hAB rfl rfl
  have o0 : r_sh f cA cB A B 280 (444 + 61 * C + 0) = f 280 (444 + 61 * C + 0) := o _ (by omega) (by omega) (by omega) (by omega) (by omega) (by omega)
  by_cases eA : C = A
  · subst eA
    exact r_P4_held h.1 o0 wA
  · by_cases eB : C = B
    · subst eB
      exact r_P4_held h.1 o0 wB
    · exact r_P4_c h o0 (o _ (by omega) (by omega) (by omega) (by omega) (by omega) (by omega))
theorem r_shuttle_P4 {A : Nat} (h : r_P4 f C) : r_P4 (r_shuttle_m f c A) C := by
  have e := r_shuttle_sh (f := f) (c := c) (C := A)
  by_cases h1 : (f 280 48).toInt < (r_size_v ((r_partOf_v f c A) - (r_partOf_v f (c + (1 : Int32)) (A + 1)))).toInt
  · rw [if_pos h1] at e
    by_cases h2 : 0 < ((r_partOf_v f c A) - (r_partOf_v f (c + (1 : Int32)) (A + 1))).toInt
    · rw [if_pos h2] at e
      exact r_P4_c (r_sh_P4 (cA := c) (cB := c + (1 : Int32)) (A := A) (B := A + 1) (by omega) h) (by rw [e]) (by rw [e])
    · rw [if_neg h2] at e
      exact r_P4_c (r_sh_P4 (cA := c + (1 : Int32)) (cB := c) (A := A + 1) (B := A) (by omega) h) (by rw [e]) (by rw [e])
  · rw [if_neg h1] at e
    exact r_P4_c h (by rw [e]) (by rw [e])
theorem r_b81_P4 {a a0 : Int32} {X k : Nat} (h : r_P4 f C) : r_P4 (r_shuntAll_b81_m f a X a0 k) C := by
  unfold r_shuntAll_b81_m
  generalize a0.toInt.toNat = A
  generalize hG : fl_row f 280 (upd (upd (f 280) (444 + 61 * A + 1) ((f 280 (444 + 61 * A + 1)) - (r_lesser_v (f 280 46) (f 280 (444 + 61 * A + 1))))) (444 + 61 * A + 4) ((f 280 (444 + 61 * A + 4)) - (f 280 46))) = H
  have q0 : H 280 (444 + 61 * C + 0) = f 280 (444 + 61 * C + 0) := by rw [← hG, fl_row_self, upd_ne (by omega), upd_ne (by omega)]
  have key : r_P4 (r_hold_m H a0 A) C := by
    by_cases e : C = A
    · subst e
      exact r_P4_held (f := H) (by rw [q0]; exact h.1) (r_hld_o (by omega) (by omega)) r_hld_4
    · refine r_P4_c h (by rw [r_hld_o (by omega) (by omega), q0]) ?_
      rw [r_hld_o (by omega) (by omega), ← hG, fl_row_self, upd_ne (by omega), upd_ne (by omega)]
  refine r_P4_c key ?_ ?_
  · rw [fl_row_ne (by decide : (280 : Nat) ≠ 277), fl_row_self, upd_ne (by omega), upd_ne (by omega), upd_ne (by omega)]
  · rw [fl_row_ne (by decide : (280 : Nat) ≠ 277), fl_row_self, upd_ne (by omega), upd_ne (by omega), upd_ne (by omega)]
theorem r_shunt_P4 (h : r_P4 f C) : r_P4 (r_shuntAll_m f) C := by
  have key : ∀ k : Nat, r_P4 (r_shuntAll_f81 f k) C := by
    intro k
    induction k with
    | zero =>
      show r_P4 (r_shuntAll_f40 f _) C
      have e : r_shuntAll_f40 f ((f 280 2).toInt.toNat) 280 = f 280 := r_shuntAll_f40_fr (fun j hj => by decide)
      exact r_P4_c h (by rw [e]) (by rw [e])
    | succ k ih =>
      rw [r_shuntAll_fS]
      exact r_b81_P4 ih
  exact key _
theorem r_balance_P4 (h : r_P4 f C) : r_P4 (r_goBalance_m f) C := by
  have z : r_P4 (fl_row (fl_row f 280 (upd (f 280) 13 (0 : Int32))) 277 (upd (f 277) 6 (0 : Int32))) C := r_P4_c h (by rw [fl_row_ne (by decide : (280 : Nat) ≠ 277), fl_row_self, upd_ne (by omega)]) (by rw [fl_row_ne (by decide : (280 : Nat) ≠ 277), fl_row_self, upd_ne (by omega)])
  have key : ∀ k : Nat, r_P4 (r_goBalance_f57 f k) C := by
    intro k
    induction k with
    | zero =>
      show r_P4 (if (f 280 45).toInt = (1 : Int32).toInt then _ else _) C
      split
      · exact r_shunt_P4 z
      · exact z
    | succ k ih =>
      show r_P4 (r_shuttle_m (r_goBalance_f57 f k) _ _) C
      exact r_shuttle_P4 ih
  unfold r_goBalance_m
  split
  · split
    · exact key _
    · split
      · exact r_shunt_P4 z
      · exact z
  · exact z
/-- the bus stays near -/
theorem r_bus_b (hb : -1000000 ≤ (f 280 4).toInt ∧ (f 280 4).toInt ≤ 1000000) (hp : -160000 ≤ (r_packCalm_v f).toInt ∧ (r_packCalm_v f).toInt ≤ 235200) (hl : 0 ≤ (f 280 41).toInt ∧ (f 280 41).toInt ≤ 9999) : -1000000 ≤ (r_goBus_j16_0 f).toInt ∧ (r_goBus_j16_0 f).toInt ≤ 1000000 := by
  have c0 : (0 : Int32).toInt = 0 := rfl
  have c1 : (1 : Int32).toInt = 1 := by decide +kernel
  have c2 : (2 : Int32).toInt = 2 := by decide +kernel
  have c3 : (3 : Int32).toInt = 3 := by decide +kernel
  have c4 : (4 : Int32).toInt = 4 := by decide +kernel
  unfold r_goBus_j16_0
  split
  · split
    · have j41 : 0 ≤ (r_goBus_j41_0 f).toInt ∧ ((r_goBus_j41_0 f).toInt = 0 ∨ (f 280 4).toInt + (r_goBus_j41_0 f).toInt ≤ 300000) := by
        unfold r_goBus_j41_0
        split
        · have e1 : ((r_packCalm_v f) - (f 280 4)).toInt = (r_packCalm_v f).toInt - (f 280 4).toInt := at_sub32 (by omega) (by omega)
          have e2 : (((r_packCalm_v f) - (f 280 4)) + (3 : Int32)).toInt = (r_packCalm_v f).toInt - (f 280 4).toInt + 3 := by rw [at_add32 (by omega) (by omega), e1, c3]
          rw [at_div32 (by omega) (by omega), e2, c4]
          omega
        · exact ⟨by omega, Or.inl c0⟩
      have e1 : ((f 280 4) + (r_goBus_j41_0 f)).toInt = (f 280 4).toInt + (r_goBus_j41_0 f).toInt := at_add32 (by omega) (by omega)
      have e2 : (((f 280 4) + (r_goBus_j41_0 f)) - (f 280 41)).toInt = (f 280 4).toInt + (r_goBus_j41_0 f).toInt - (f 280 41).toInt := by rw [at_sub32 (by omega) (by omega), e1]
      unfold r_goBus_j78_0
      split
      · omega
      · omega
    · generalize f 280 4 = y at *
      unfold r_floor_v
      split
      · have e1 : (((2 : Int32) - (1 : Int32)) - y).toInt = 1 - y.toInt := by
          have q : ((2 : Int32) - (1 : Int32)).toInt = 1 := by decide +kernel
          rw [at_sub32 (by omega) (by omega), q]
        have e2 : ((((2 : Int32) - (1 : Int32)) - y) / (2 : Int32)).toInt = (1 - y.toInt) / 2 := by rw [at_div32 (by omega) (by omega), e1, c2]
        rw [Int32.toInt_neg, e2, Int.bmod_eq_of_le (by omega) (by omega)]
        omega
      · rw [at_div32 (by omega) (by omega), c2]
        omega
  · omega
/-- what ranges the settings have -/
theorem t2_OK.s (h : t2_OK g) {k : Nat} (hk : k < 30) : t2_lo k ≤ (g (34 + k)).toInt ∧ (g (34 + k)).toInt ≤ t2_hi k := h.1 k hk
/-- obeyed rules keep the settings within -/
theorem r_rules_b (h : t2_OK (f 280)) : ∀ k : Nat, k < 30 → t2_lo k ≤ (r_goRules_m f 280 (34 + k)).toInt ∧ (r_goRules_m f 280 (34 + k)).toInt ≤ t2_hi k := by
  obtain ⟨hs, -, -, -, ⟨e1, e2, e3⟩, -, -, -⟩ := h
  have key : ∀ j : Nat, j ≤ (f 280 18).toInt.toNat → ∀ k : Nat, k < 30 → t2_lo k ≤ (r_goRules_f2 f j 280 (34 + k)).toInt ∧ (r_goRules_f2 f j 280 (34 + k)).toInt ≤ t2_hi k := by
    intro j
    induction j with
    | zero => intro _ k hk; exact hs k hk
    | succ j ih =>
      intro hj k hk
      have i := ih (by omega)
      have W : ∀ w : Nat, (w < 34 ∨ 64 ≤ w) → r_goRules_f2 f j 280 w = f 280 w := fun w hw => r_goRules_f2_w e1 e2 (by omega) hw
      have r3 := e2 j (by omega)
      have r4 := e3 j (by omega)
      show t2_lo k ≤ (r_goRules_b2_m (r_goRules_f2 f j) j 280 (34 + k)).toInt ∧ (r_goRules_b2_m (r_goRules_f2 f j) j 280 (34 + k)).toInt ≤ t2_hi k
      unfold r_goRules_b2_m
      rw [fl_row_self, W _ (by omega)]
      by_cases e : k = (f 280 ((79 + (5 * j)) + 3)).toInt.toNat
      · rw [← e, upd_self]
        unfold r_goRules_b2_j40_0
        rw [W ((79 + (5 * j)) + 3) (by omega), W ((79 + (5 * j)) + 4) (by omega), ← e]
        rw [← e] at r4
        have q := i k hk
        split
        · split
          · exact r4
          · exact q
        · split
          · exact r4
          · exact q
      · rw [upd_ne (by omega)]
        exact i k hk
  unfold r_goRules_m
  exact key _ (Nat.le_refl _)
theorem t2_td {x y : Int32} (hy : 0 < y.toInt) : (x / y).toInt = if 0 ≤ x.toInt then x.toInt / y.toInt else -((-x.toInt) / y.toInt) := by
  have bx := at_i32 x
  rw [Int32.toInt_div]
  split
  · rename_i h
    rw [Int.tdiv_eq_ediv_of_nonneg h]
    have a1 : 0 ≤ x.toInt / y.toInt := Int.ediv_nonneg h (by omega)
    have a2 : x.toInt / y.toInt ≤ x.toInt := Int.ediv_le_self _ h
    exact Int.bmod_eq_of_le (by omega) (by omega)
  · rename_i h
    have e : x.toInt.tdiv y.toInt = -((-x.toInt).tdiv y.toInt) := by rw [Int.neg_tdiv, Int.neg_neg]
    have h' : 0 ≤ -x.toInt := by omega
    rw [e, Int.tdiv_eq_ediv_of_nonneg h']
    have a1 : 0 ≤ -x.toInt / y.toInt := Int.ediv_nonneg h' (by omega)
    have a2 : -x.toInt / y.toInt ≤ -x.toInt := Int.ediv_le_self _ h'
    exact Int.bmod_eq_of_le (by omega) (by omega)
theorem t2_polar_b {p s : Int32} (hp : -10000 ≤ p.toInt ∧ p.toInt ≤ 10000) (hx : -99999 ≤ x.toInt ∧ x.toInt ≤ 99999) (hs : 0 ≤ s.toInt ∧ s.toInt ≤ 99) : -10000 ≤ (p + (((x * s) / (1000 : Int32)) - p) / (8 : Int32)).toInt ∧ (p + (((x * s) / (1000 : Int32)) - p) / (8 : Int32)).toInt ≤ 10000 := by
  have c1000 : (1000 : Int32).toInt = 1000 := by decide +kernel
  have c8 : (8 : Int32).toInt = 8 := by decide +kernel
  have a1 : x.toInt * s.toInt ≤ 99999 * 99 := Int.le_trans (Int.mul_le_mul_of_nonneg_right hx.2 hs.1) (Int.mul_le_mul_of_nonneg_left hs.2 (by omega))
  have a2 : (-99999) * s.toInt ≤ x.toInt * s.toInt := Int.mul_le_mul_of_nonneg_right hx.1 hs.1
  have e : (x * s).toInt = x.toInt * s.toInt := at_mul32 (by omega) (by omega)
  have d := t2_td (x := x * s) (y := (1000 : Int32)) (by omega)
  generalize x * s = y at *
  rw [c1000] at d
  have yb : -9900 ≤ (y / (1000 : Int32)).toInt ∧ (y / (1000 : Int32)).toInt ≤ 9900 := by
    rw [d]
    split <;> omega
  generalize y / (1000 : Int32) = q at *
  have eq : (q - p).toInt = q.toInt - p.toInt := at_sub32 (by omega) (by omega)
  have d8 := t2_td (x := q - p) (y := (8 : Int32)) (by omega)
  rw [c8, eq] at d8
  generalize (q - p) / (8 : Int32) = r at *
  have rb : -20000 ≤ r.toInt ∧ r.toInt ≤ 20000 ∧ (0 ≤ q.toInt - p.toInt → 0 ≤ r.toInt ∧ r.toInt ≤ q.toInt - p.toInt) ∧ (q.toInt - p.toInt < 0 → q.toInt - p.toInt ≤ r.toInt ∧ r.toInt ≤ 0) := by
    rw [d8]
    split <;> omega
  rw [at_add32 (by omega) (by omega)]
  omega
theorem t2_abs_b {x : Int32} (hx : -99999 ≤ x.toInt ∧ x.toInt ≤ 99999) : 0 ≤ (t2_abs_v x).toInt ∧ (t2_abs_v x).toInt ≤ 99999 := by
  have n : (-x).toInt = -x.toInt := by rw [Int32.toInt_neg]; exact Int.bmod_eq_of_le (by omega) (by omega)
  unfold t2_abs_v
  split <;> omega
theorem r_old_held : (∃ v : Int32, r_goOld_m f c C 280 (444 + 61 * C + 1) = r_held_v v (0 : Int32) ((3600 : Int32) * r_goOld_m f c C 280 (444 + 61 * C + 0))) ∧ ∃ v : Int32, r_goOld_m f c C 280 (444 + 61 * C + 4) = r_held_v v (0 : Int32) ((3600 : Int32) * r_goOld_m f c C 280 (444 + 61 * C + 0)) := by
  unfold r_goOld_m
  generalize (fl_row (t2_wf (fun f' => r_goOld_g76 f' c C ((3600 : Int32) * (f 280 58))) 2147483647 _) 280 _ : t2_F) = H
  rw [r_hld_1, r_hld_4, r_hld_o (w := 444 + 61 * C + 0) (by omega) (by omega)]
  exact ⟨⟨_, rfl⟩, ⟨_, rfl⟩⟩
/-- (6): the bus, what is reckoned, the last place on the curve -/
theorem r_meas_mid {w : Nat} (h : w ≠ 4) : r_goMeasure_m f 280 w = r_mid f 280 w := by
  unfold r_goMeasure_m r_mid
  split
  · rw [fl_row_self, upd_ne h]
  · rw [fl_row_self, upd_ne h, fl_row_self]
theorem r_meas_4 : r_goMeasure_m f 280 4 = f 280 4 ∨ r_goMeasure_m f 280 4 = r_pack_v (r_mid f) := by
  have m4 : r_mid f 280 4 = f 280 4 := r_mid_lo (by decide) (by decide) (by decide)
  unfold r_goMeasure_m
  by_cases h : (r_goMeasure_j144_0 f).toInt = (f 280 53).toInt
  · have em : r_mid f = r_goMeasure_f163 f ((f 280 2).toInt.toNat) := by unfold r_mid; rw [if_pos h]
    rw [if_pos h, fl_row_self, upd_self]
    unfold r_goMeasure_j204_0
    rw [← em]
    split
    · exact Or.inl m4
    · exact Or.inr rfl
  · have em : r_mid f = fl_row (r_goMeasure_f17 f ((f 280 2).toInt.toNat)) 280 (upd (upd ((r_goMeasure_f17 f ((f 280 2).toInt.toNat)) 280) 14 (f 280 5)) 9 (r_goMeasure_j144_0 f)) := by unfold r_mid; rw [if_neg h]
    have m4' : (r_goMeasure_f17 f ((f 280 2).toInt.toNat)) 280 4 = f 280 4 := by
      rw [em, fl_row_self, upd_ne (by decide), upd_ne (by decide)] at m4
      exact m4
    rw [if_neg h, fl_row_self, upd_self]
    unfold r_goMeasure_j204_1
    rw [← em]
    split
    · exact Or.inl m4'
    · exact Or.inr rfl
theorem r_mid_cell (hC : C < (f 280 2).toInt.toNat) (cap : t2_cap (f 280 (444 + 61 * C + 0))) : (r_mid f 280 (444 + 61 * C + 4) = f 280 (444 + 61 * C + 4) ∨ (0 ≤ (r_mid f 280 (444 + 61 * C + 4)).toInt ∧ (r_mid f 280 (444 + 61 * C + 4)).toInt ≤ 3600 * (f 280 (444 + 61 * C + 0)).toInt)) ∧ (r_mid f 280 (444 + 61 * C + 16) = f 280 (444 + 61 * C + 16) ∨ (0 ≤ (r_mid f 280 (444 + 61 * C + 16)).toInt ∧ (r_mid f 280 (444 + 61 * C + 16)).toInt ≤ 1000)) := by
  by_cases h : (r_goMeasure_j144_0 f).toInt = (f 280 53).toInt
  · have em : r_mid f = r_goMeasure_f163 f ((f 280 2).toInt.toNat) := by unfold r_mid; rw [if_pos h]
    obtain ⟨r4, r12, r16, r13⟩ := r_rest_w (g := r_goMeasure_f163 f C) (c := Int32.ofNat C) (C := C)
    have z0 : r_goMeasure_f163 f C 280 (444 + 61 * C + 0) = f 280 (444 + 61 * C + 0) := by
      rw [r_f163_me (by decide), r_f17_o (by decide) (by decide) (by decide) (by decide) (by decide)]
    have pb := t2_pb_b (r_voltsOf_v (r_goMeasure_f163 f C) (Int32.ofNat C) C)
    obtain ⟨n1, n2, n3, n4⟩ := t2_chg pb cap
    refine ⟨Or.inr ?_, Or.inr ?_⟩
    · rw [em, r_f163_in (by decide) hC, r4]
      unfold r_chargeAt_v
      rw [z0, n4]
      exact ⟨n2, n3⟩
    · rw [em, r_f163_in (by decide) hC, r16]
      exact pb
  · have em : r_mid f = fl_row (r_goMeasure_f17 f ((f 280 2).toInt.toNat)) 280 (upd (upd ((r_goMeasure_f17 f ((f 280 2).toInt.toNat)) 280) 14 (f 280 5)) 9 (r_goMeasure_j144_0 f)) := by unfold r_mid; rw [if_neg h]
    refine ⟨Or.inl ?_, Or.inl ?_⟩
    · rw [em, fl_row_self, upd_ne (by omega), upd_ne (by omega), r_f17_o (by decide) (by decide) (by decide) (by decide) (by decide)]
    · rw [em, fl_row_self, upd_ne (by omega), upd_ne (by omega), r_f17_o (by decide) (by decide) (by decide) (by decide) (by decide)]
theorem r_taper_b (h : -99999 ≤ (f 280 54).toInt ∧ (f 280 54).toInt ≤ 99999) : -99999 ≤ (r_goTaper_m f 280 54).toInt ∧ (r_goTaper_m f 280 54).toInt ≤ 99999 := by
  have c0 : (0 : Int32).toInt = 0 := rfl
  have c9 : (9 : Int32).toInt = 9 := by decide +kernel
  have c10 : (10 : Int32).toInt = 10 := by decide +kernel
  unfold r_goTaper_m
  split
  · exact h
  · split
    · split
      · exact h
      · split
        · rename_i h0
          rw [fl_row_self, upd_self]
          unfold r_goTaper_j99_0
          have e : (f 280 54 * (9 : Int32)).toInt = 9 * (f 280 54).toInt := by rw [at_mul32] <;> rw [c9] <;> omega
          split
          · omega
          · rw [at_div32 (by omega) (by omega), e, c10]
            omega
        · exact h
    · exact h
/-- (7): the words behind the book -/
theorem r_wd_215 {w : Nat} (hb : 0 ≤ (f 280 20).toInt ∧ (f 280 20).toInt ≤ 24) (hw : w = 215 ∨ w = 216) : r_writeDown_m f x 280 w = f 280 w := by
  have c24 : (24 : Int32).toInt = 24 := by decide +kernel
  unfold r_writeDown_m
  split
  · rename_i h
    rw [fl_row_self, upd_ne (by omega), upd_ne (by omega), upd_ne (by omega), upd_ne (by omega), r_writeDown_f16_w (by decide) (by omega)]
  · rename_i h
    rw [fl_row_self, upd_ne (by omega), upd_ne (by omega), upd_ne (by omega)]
theorem r_b123_215 {z a0 : Int32} {k w : Nat} (hk : k < 11) (hb : 0 ≤ (f 280 20).toInt ∧ (f 280 20).toInt ≤ 24) (hw : w = 215 ∨ w = 216) : r_goFaults_b123_m f z a0 k 280 w = f 280 w := by
  unfold r_goFaults_b123_m
  split
  · rfl
  · split
    · split
      · rw [r_wd_215 (by rw [fl_row_self, upd_ne (by omega), upd_ne (by omega), upd_ne (by omega)]; exact hb) hw, fl_row_self, upd_ne (by omega), upd_ne (by omega), upd_ne (by omega)]
      · rw [fl_row_self, upd_ne (by omega), upd_ne (by omega)]
    · split
      · rw [r_wd_215 (by rw [fl_row_self, upd_ne (by omega), upd_ne (by omega)]; exact hb) hw, fl_row_self, upd_ne (by omega), upd_ne (by omega)]
      · rw [fl_row_self, upd_ne (by omega)]
theorem r_faults_215 {w : Nat} (hb : 0 ≤ (f 280 20).toInt ∧ (f 280 20).toInt ≤ 24) (hw : w = 215 ∨ w = 216) : r_goFaults_m f 280 w = f 280 w := by
  have key : ∀ k : Nat, k ≤ 11 → r_goFaults_f123 f k 280 w = f 280 w := by
    intro k
    induction k with
    | zero =>
      intro _
      unfold r_goFaults_f123 r_goFaults_l123
      simp only [fl_row_self, upd_ne (show w ≠ 15 by omega), upd_ne (show w ≠ 16 by omega), upd_ne (show w ≠ 22 by omega)]
    | succ k ih =>
      intro hk
      exact (r_b123_215 (a0 := (r_goFaults_l123 f k).2) (z := r_goFaults_a91 f 11) (by omega) (r_goFaults_ib hb k) hw).trans (ih (by omega))
  unfold r_goFaults_m
  rw [fl_row_self, upd_ne (by omega), key 11 (by decide)]
end OKS

end

/-! 94.26.sta.lean.txt -/
section
/-! ===== block 0: a second, part by part, keeps THE RELATION ===== -/
section C0STA
variable {fc fr fc' fr' f g : t2_F} {C n : Nat} {c x : Int32}
/-- what only (7) and behind it touch -/
def c0_GX (fc fr : t2_F) : Prop := c0_GT fc fr ∧ c0_GW fc fr ∧ c0_Tr fc fr ∧ c0_GM fc fr
theorem c0_GX.congr (h : c0_GX fc fr) (hn : (fr 280 19).toInt ≤ 24) (ep : ∀ p : Nat, (p ≠ 1 ∧ p ≠ 4 ∧ p < 18) ∨ (82 ≤ p ∧ p < 91) → fc' p = fc p) (e : ∀ w : Nat, (w = 6 ∨ (15 ≤ w ∧ w < 34) ∨ (64 ≤ w ∧ w < 444)) → fr' 280 w = fr 280 w) : c0_GX fc' fr' := by
  obtain ⟨h1, h2, h3, h4⟩ := h
  exact ⟨h1.congr hn (ep _ (by decide)) (ep _ (by decide)) (ep _ (by decide)) (ep _ (by decide)) (ep _ (by decide)) (ep _ (by decide)) (fun w hw => e w (by omega)), h2.congr (ep _ (by decide)) (ep _ (by decide)) (ep _ (by decide)) (ep _ (by decide)) (ep _ (by decide)) (fun w hw => e w (by omega)), h3.congr (ep _ (by decide)) (ep _ (by decide)) (fun w hw => e w (by omega)), h4.congr (fun p hp => ep p (Or.inr hp)) (fun w hw => e w (by omega))⟩
/-- the relation, with what the reference's words keep to -/
def c0_I (fc fr : t2_F) : Prop := c0_GS fc fr ∧ c0_Rs fc fr ∧ c0_GX fc fr ∧ (∀ C : Nat, (C : Int) < (fr 280 2).toInt → c0_Rc fc fr C ∧ c0_GC fc fr C) ∧ t2_OK (fr 280)
theorem c0_Rc.c18 (h : c0_Rc fc fr C) (ep : ∀ j : Nat, j < 10 → fc' (18 + 4 * C) j = fc (18 + 4 * C) j) (e18 : fc' (18 + 4 * C) 18 = fr' 280 (444 + 61 * C + 60)) (er : ∀ w : Nat, (w < 7 ∨ w = 9) → fr' 280 (444 + 61 * C + w) = fr 280 (444 + 61 * C + w)) : c0_Rc fc' fr' C := by
  unfold c0_Rc r_partOf_v at *
  rw [ep 0 (by decide), ep 1 (by decide), ep 2 (by decide), ep 3 (by decide), ep 4 (by decide), ep 5 (by decide), ep 6 (by decide), ep 7 (by decide), ep 8 (by decide), ep 9 (by decide), er 0 (by omega), er 1 (by omega), er 2 (by omega), er 3 (by omega), er 4 (by omega), er 5 (by omega), er 6 (by omega), er 9 (by omega)]
  obtain ⟨a, b, d, i, j, -⟩ := h
  exact ⟨a, b, d, i, j, e18⟩
/-- the count of cells -/
theorem c0_I.cnt (h : c0_I fc fr) : (fr 280 2).toInt = (((fr 280 2).toInt.toNat : Nat) : Int) ∧ (fr 280 2).toInt.toNat ≤ 16 ∧ (fc 1 5).toInt = (((fr 280 2).toInt.toNat : Nat) : Int) := by
  obtain ⟨⟨⟨h5, -⟩, -⟩, -, -, -, -, ⟨-, -, h2, -⟩, -⟩ := h
  rw [h5]
  omega
theorem c0_I.cell (h : c0_I fc fr) {C : Nat} (hC : C < (fr 280 2).toInt.toNat) : (c0_Rc fc fr C ∧ c0_GC fc fr C) ∧ t2_OC (fr 280) C := by
  have q : (C : Int) < (fr 280 2).toInt := by have := h.cnt; omega
  exact ⟨h.2.2.2.1 C q, h.2.2.2.2.2.2.2.2.2.2.2 C q⟩
theorem c0_I.rl (h : c0_I fc fr) : c0_RL fc fr ((fr 280 2).toInt.toNat) := ⟨⟨h.cnt.2.1, h.cnt.2.2, h.cnt.1⟩, h.2.1, h.2.2.1.1.2.1, h.2.2.2.2.2.2.2.1.1, fun C hC => (h.cell hC).1.1⟩
theorem c0_I.far (h : c0_I fc fr) {C : Nat} (hC : C < (fr 280 2).toInt.toNat) : t2_far (fr 280 5) (fr 280 (444 + 61 * C + 2)) := t2_far_ok h.2.2.2.2.2.1.1 (h.cell hC).2.2.1
/-- TIME -/
noncomputable def c0_s1 (f : t2_F) : t2_F := fl_row f 1 (upd (f 1) 6 (t2_min_v (f 1 6 + (1 : Int32)) (9999 : Int32)))
noncomputable def r_t1 (f : t2_F) : t2_F := fl_row f 280 (upd (f 280) 7 (f 280 7 + (1 : Int32)))
theorem c0_I.s1 (h : c0_I fc fr) (ht : (fr 280 7).toInt < 9999) : c0_I (c0_s1 fc) (r_t1 fr) ∧ (r_t1 fr 280 7).toInt = (fr 280 7).toInt + 1 := by
  have hh := h
  obtain ⟨⟨⟨g5, g6, g7, g8⟩, ⟨g9, g10, g11, g12⟩, g13, g14, g15, g16⟩, rs, gx, cl, ok⟩ := h
  have t0 : 0 ≤ (fr 280 7).toInt := ok.2.1.2.2.2.1
  have c1 : (1 : Int32).toInt = 1 := by decide +kernel
  have c9 : (9999 : Int32).toInt = 9999 := by decide +kernel
  have e7 : (fr 280 7 + (1 : Int32)).toInt = (fr 280 7).toInt + 1 := by rw [at_add32 (by omega) (by omega), c1]
  have P : ∀ p : Nat, p ≠ 1 → c0_s1 fc p = fc p := fun p hp => fl_row_ne hp
  have Q : ∀ j : Nat, j ≠ 6 → c0_s1 fc 1 j = fc 1 j := fun j hj => by unfold c0_s1; rw [fl_row_self, upd_ne hj]
  have W : ∀ w : Nat, w ≠ 7 → r_t1 fr 280 w = fr 280 w := fun w hw => by unfold r_t1; rw [fl_row_self, upd_ne hw]
  have w7 : r_t1 fr 280 7 = fr 280 7 + (1 : Int32) := by unfold r_t1; rw [fl_row_self, upd_self]
  have q6 : c0_s1 fc 1 6 = fr 280 7 + (1 : Int32) := by
    unfold c0_s1
    rw [fl_row_self, upd_self, g6]
    apply Int32.toInt.inj
    rw [t2_min_i]
    omega
  refine ⟨⟨⟨⟨?_, ?_, ?_, ?_⟩, ⟨?_, ?_, ?_, ?_⟩, ?_, ?_, ?_, ?_⟩, rs.congr (P _ (by decide)) (fun k hk => W _ (by omega)), gx.congr ok.2.2.2.2.2.1.1.2 (fun p hp => P p (by omega)) (fun w hw => W w (by omega)), fun C hC => ?_, ?_⟩, by rw [w7, e7]⟩
  · rw [Q 5 (by decide), W 2 (by decide), g5]
  · rw [q6, w7]
  · rw [Q 7 (by decide), W 3 (by decide), g7]
  · rw [Q 8 (by decide), W 4 (by decide), g8]
  · rw [Q 9 (by decide), W 5 (by decide), g9]
  · rw [Q 10 (by decide), W 14 (by decide), g10]
  · rw [Q 11 (by decide), W 8 (by decide), g11]
  · rw [Q 12 (by decide), W 9 (by decide), g12]
  · rw [Q 13 (by decide), W 10 (by decide), g13]
  · rw [Q 14 (by decide), W 11 (by decide), g14]
  · rw [Q 15 (by decide), W 12 (by decide), g15]
  · rw [Q 16 (by decide), W 13 (by decide), g16]
  · rw [W 2 (by decide)] at hC
    exact ⟨(cl C hC).1.congr (P _ (by omega)) (fun k hk => W _ (by omega)), (cl C hC).2.congr (fun j _ _ => by rw [P _ (by omega)]) (fun p hp => P p (by omega)) (fun w hw => W _ (by omega))⟩
  · refine ok.upd (fun w hw => W w (by omega)) (fun k hk => by rw [W _ (by omega)]; exact ok.s hk) (by rw [W 5 (by decide)]; exact ok.2.1.1) (by rw [W 4 (by decide)]; exact ok.2.1.2.1) (by rw [w7, e7]; omega) (by rw [W 16 (by decide), W 20 (by decide), W 21 (by decide)]; exact ok.2.2.2.2.2.2.1) (fun C hC => ?_)
    exact (hh.2.2.2.2.2.2.2.2.2.2.2 C hC).congr (fun w hw => W _ (by omega)) (by rw [w7, e7]; omega)
/-- (1) -/
theorem c0_I.bus (h : c0_I fc fr) : c0_I (c0_moveBus_m fc) (r_goBus_m fr) ∧ c0_moveBus_v fc = r_goBus_m fr 277 4 ∧ (r_goBus_m fr 277 4 = 0 ∨ r_goBus_m fr 277 4 = 1) ∧ ∀ j : Nat, j ≠ 4 → r_goBus_m fr 277 j = fr 277 j := by
  have hh := h
  obtain ⟨⟨⟨g5, g6, g7, g8⟩, ⟨g9, g10, g11, g12⟩, g13, g14, g15, g16⟩, rs, gx, cl, ok⟩ := h
  have cn := hh.cnt
  have bp : -160000 ≤ (r_packCalm_v fr).toInt ∧ (r_packCalm_v fr).toInt ≤ 235200 := by
    have b := r_packCalm_b (f := fr) (n := (fr 280 2).toInt.toNat) cn.2.1 (fun C hC => (hh.cell hC).2.2.2.2.2.1)
    have e : r_packCalm_v fr = r_packCalm_a4 fr ((fr 280 2).toInt.toNat) := rfl
    rw [e]
    omega
  have bb := ok.2.1.2.1
  obtain ⟨hp, hj⟩ := c0_bus_eq (n := (fr 280 2).toInt.toNat) cn.2.2 g5 (fun C hC => (hh.cell hC).1.1) g7 g8 rs gx.1.1 ok.2.2.1 (by omega) (by omega)
  have sl := c0_slow_eq g7 g8 rs hp hj
  refine ⟨?_, sl⟩
  have P : ∀ p : Nat, p ≠ 1 → c0_moveBus_m fc p = fc p := fun p hp => c0_moveBus_fr hp
  have Q : ∀ j : Nat, j ≠ 7 → j ≠ 8 → c0_moveBus_m fc 1 j = fc 1 j := fun j h7 h8 => by rw [c0_moveBus_w, if_neg h8, if_neg h7]
  have W : ∀ w : Nat, w ≠ 3 → w ≠ 4 → r_goBus_m fr 280 w = fr 280 w := fun w h3 h4 => by rw [r_goBus_w2, if_neg h4, if_neg h3]
  have w4 : r_goBus_m fr 280 4 = r_goBus_j16_0 fr := by rw [r_goBus_w2, if_pos rfl]
  have j16 := r_bus_b (f := fr) bb bp (ok.s (k := 7) (by decide))
  refine ⟨⟨⟨?_, ?_, ?_, ?_⟩, ⟨?_, ?_, ?_, ?_⟩, ?_, ?_, ?_, ?_⟩, rs.congr (P _ (by decide)) (fun k hk => W _ (by omega) (by omega)), gx.congr ok.2.2.2.2.2.1.1.2 (fun p hp => P p (by omega)) (fun w hw => W w (by omega) (by omega)), fun C hC => ?_, ?_⟩
  · rw [Q 5 (by decide) (by decide), W 2 (by decide) (by decide), g5]
  · rw [Q 6 (by decide) (by decide), W 7 (by decide) (by decide), g6]
  · rw [c0_moveBus_w, r_goBus_w2, if_neg (by decide : ¬ (7 : Nat) = 8), if_pos rfl, if_neg (by decide : ¬ (3 : Nat) = 4), if_pos rfl, g7, hp, hj, t2_m32 (r_goBus_j16_0 fr) (1000 : Int32)]
  · rw [c0_moveBus_w, if_pos rfl, w4, hj]
  · rw [Q 9 (by decide) (by decide), W 5 (by decide) (by decide), g9]
  · rw [Q 10 (by decide) (by decide), W 14 (by decide) (by decide), g10]
  · rw [Q 11 (by decide) (by decide), W 8 (by decide) (by decide), g11]
  · rw [Q 12 (by decide) (by decide), W 9 (by decide) (by decide), g12]
  · rw [Q 13 (by decide) (by decide), W 10 (by decide) (by decide), g13]
  · rw [Q 14 (by decide) (by decide), W 11 (by decide) (by decide), g14]
  · rw [Q 15 (by decide) (by decide), W 12 (by decide) (by decide), g15]
  · rw [Q 16 (by decide) (by decide), W 13 (by decide) (by decide), g16]
  · rw [W 2 (by decide) (by decide)] at hC
    exact ⟨(cl C hC).1.congr (P _ (by omega)) (fun k hk => W _ (by omega) (by omega)), (cl C hC).2.congr (fun j _ _ => by rw [P _ (by omega)]) (fun p hp => P p (by omega)) (fun w hw => W _ (by omega) (by omega))⟩
  · refine ok.upd (fun w hw => W w (by omega) (by omega)) (fun k hk => by rw [W _ (by omega) (by omega)]; exact ok.s hk) (by rw [W 5 (by decide) (by decide)]; exact ok.2.1.1) (by rw [w4]; exact j16) (by rw [W 7 (by decide) (by decide)]; exact ok.2.1.2.2.2) (by rw [W 16 (by decide) (by decide), W 20 (by decide) (by decide), W 21 (by decide) (by decide)]; exact ok.2.2.2.2.2.2.1) (fun C hC => ?_)
    exact (hh.2.2.2.2.2.2.2.2.2.2.2 C hC).congr (fun w hw => W _ (by omega) (by omega)) (by rw [W 7 (by decide) (by decide)]; exact Int.le_refl _)
/-- (2) -/
theorem c0_I.cur (h : c0_I fc fr) : c0_I (c0_letCurrent_m fc) (r_goCurrent_m fr) ∧ ∀ w : Nat, w ≠ 5 → (∀ C : Nat, C < (fr 280 2).toInt.toNat → w ≠ 444 + 61 * C + 60) → r_goCurrent_m fr 280 w = fr 280 w := by
  have hh := h
  obtain ⟨⟨⟨g5, g6, g7, g8⟩, ⟨g9, g10, g11, g12⟩, g13, g14, g15, g16⟩, rs, gx, cl, ok⟩ := h
  have cn := hh.cnt
  have rl := hh.rl
  have hm0 : t2_lo 4 ≤ (fr 280 38).toInt ∧ (fr 280 38).toInt ≤ t2_hi 4 := ok.s (k := 4) (by decide)
  have l4 : t2_lo 4 = 1 := by decide
  have h4 : t2_hi 4 = 99999 := by decide
  have hm : 0 ≤ (fr 280 38).toInt ∧ (fr 280 38).toInt ≤ 99999 := by omega
  obtain ⟨k1, k2, k3, k4, k5⟩ := c0_cur_eq rl g7 gx.1.1 ok.2.2.1 hm
  refine ⟨?_, k5⟩
  have P : ∀ p : Nat, p ≠ 1 → (∀ C : Nat, C < (fr 280 2).toInt.toNat → p ≠ 18 + 4 * C) → c0_letCurrent_m fc p = fc p := fun p hp hC => funext (fun k => k4 p k (fun q => absurd q hp) (fun C c q => absurd q (hC C c)))
  have Q : ∀ j : Nat, j ≠ 9 → c0_letCurrent_m fc 1 j = fc 1 j := fun j hj => k4 1 j (fun _ => hj) (fun C _ q => absurd q (by omega))
  have W : ∀ w : Nat, w ≠ 5 → w < 444 → r_goCurrent_m fr 280 w = fr 280 w := fun w h5 hw => k5 w h5 (fun C _ => by omega)
  have Wc : ∀ C w : Nat, w < 60 → r_goCurrent_m fr 280 (444 + 61 * C + w) = fr 280 (444 + 61 * C + w) := fun C w hw => k5 _ (by omega) (fun D _ => by omega)
  have cb : -99999 ≤ (r_goCurrent_j9_0 fr).toInt ∧ (r_goCurrent_j9_0 fr).toInt ≤ 99999 := by
    have c0 : (0 : Int32).toInt = 0 := rfl
    have l0 := rl.lim_nn (x := (0 : Int32)) hm
    have l1 := rl.lim_nn (x := (1 : Int32)) hm
    have n1 : (-(r_limitOf_v fr (1 : Int32))).toInt = -(r_limitOf_v fr (1 : Int32)).toInt := by rw [Int32.toInt_neg]; exact Int.bmod_eq_of_le (by omega) (by omega)
    unfold r_goCurrent_j9_0
    split
    · omega
    · have := t2_heldTo_b (v := fr 280 54) (lo := -(r_limitOf_v fr (1 : Int32))) (hi := r_limitOf_v fr (0 : Int32)) (by omega)
      have e : r_held_v (fr 280 54) (-(r_limitOf_v fr (1 : Int32))) (r_limitOf_v fr (0 : Int32)) = t2_heldTo_v (fr 280 54) (-(r_limitOf_v fr (1 : Int32))) (r_limitOf_v fr (0 : Int32)) := rfl
      rw [e]
      omega
  refine ⟨⟨⟨?_, ?_, ?_, ?_⟩, ⟨?_, ?_, ?_, ?_⟩, ?_, ?_, ?_, ?_⟩, rs.congr (P _ (by decide) (fun C _ => by omega)) (fun k hk => W _ (by omega) (by omega)), gx.congr ok.2.2.2.2.2.1.1.2 (fun p hp => P p (by omega) (fun C hC => by omega)) (fun w hw => W w (by omega) (by omega)), fun C hC => ?_, ?_⟩
  · rw [Q 5 (by decide), W 2 (by decide) (by decide), g5]
  · rw [Q 6 (by decide), W 7 (by decide) (by decide), g6]
  · rw [Q 7 (by decide), W 3 (by decide) (by decide), g7]
  · rw [Q 8 (by decide), W 4 (by decide) (by decide), g8]
  · rw [k1, k2]
  · rw [Q 10 (by decide), W 14 (by decide) (by decide), g10]
  · rw [Q 11 (by decide), W 8 (by decide) (by decide), g11]
  · rw [Q 12 (by decide), W 9 (by decide) (by decide), g12]
  · rw [Q 13 (by decide), W 10 (by decide) (by decide), g13]
  · rw [Q 14 (by decide), W 11 (by decide) (by decide), g14]
  · rw [Q 15 (by decide), W 12 (by decide) (by decide), g15]
  · rw [Q 16 (by decide), W 13 (by decide) (by decide), g16]
  · rw [W 2 (by decide) (by decide)] at hC
    have hC' : C < (fr 280 2).toInt.toNat := by omega
    have R : ∀ j : Nat, j ≠ 18 → c0_letCurrent_m fc (18 + 4 * C) j = fc (18 + 4 * C) j := fun j hj => k4 _ j (fun q => absurd q (by omega)) (fun _ _ _ => hj)
    exact ⟨(cl C hC).1.c18 (fun j hj => R j (by omega)) (k3 C hC') (fun w hw => Wc C w (by omega)), (cl C hC).2.congr (fun j _ _ => R j (by omega)) (fun p hp => P p (by omega) (fun D hD => by omega)) (fun w hw => Wc C w (by omega))⟩
  · refine ok.upd (fun w hw => W w (by omega) (by omega)) (fun k hk => by rw [W _ (by omega) (by omega)]; exact ok.s hk) (by rw [k2]; exact cb) (by rw [W 4 (by decide) (by decide)]; exact ok.2.1.2.1) (by rw [W 7 (by decide) (by decide)]; exact ok.2.1.2.2.2) (by rw [W 16 (by decide) (by decide), W 20 (by decide) (by decide), W 21 (by decide) (by decide)]; exact ok.2.2.2.2.2.2.1) (fun C hC => ?_)
    exact (hh.2.2.2.2.2.2.2.2.2.2.2 C hC).congr (fun w hw => Wc C w (by omega)) (by rw [W 7 (by decide) (by decide)]; exact Int.le_refl _)
/-- (3): what the class's cell comes to -/
theorem c0_wear_9 {i : Nat} (h0 : 0 ≤ (f (18 + 4 * i) 9).toInt) : 0 ≤ (c0_wear_m f i x (18 + 4 * i) 9).toInt ∧ (c0_wear_m f i x (18 + 4 * i) 9).toInt ≤ (f (18 + 4 * i) 9).toInt := by
  unfold c0_wear_m c0_putReckoned_m
  split
  · split
    · omega
    · rename_i h1 h2
      rw [fl_row_self, upd_ne (by decide), fl_row_self, upd_self]
      generalize f (18 + 4 * i) 9 = t at *
      generalize x * (3600 : Int32) = l at *
      obtain ⟨d1, -, -, -⟩ := t2_irem h0 h1
      have m0 := Int.emod_nonneg t.toInt (show l.toInt ≠ 0 by omega)
      have ml := Int.emod_lt_of_pos t.toInt h1
      rw [d1]
      omega
  · omega
theorem c0_pass_9 {i : Nat} (h0 : 0 ≤ (f (18 + 4 * i) 9 + t2_abs_v x).toInt) : (0 ≤ (c0_pass_m f i x (18 + 4 * i) 9).toInt ∧ (c0_pass_m f i x (18 + 4 * i) 9).toInt ≤ (f (18 + 4 * i) 9 + t2_abs_v x).toInt) ∧ c0_pass_m f i x (18 + 4 * i) 7 = f (18 + 4 * i) 7 + (((x * (f 4 25)) / (1000 : Int32)) - f (18 + 4 * i) 7) / (8 : Int32) := by
  unfold c0_pass_m c0_putReckoned_m c0_putCharge_m
  generalize hM : fl_row f (18 + 4 * i) (upd (upd (upd (f (18 + 4 * i)) 6 (((f (18 + 4 * i) 6) + ((((x / (1000 : Int32)) * (x / (1000 : Int32))) * (f (18 + 4 * i) 5)) / (500 : Int32))) + (((f 4 6) - ((f (18 + 4 * i) 6) + ((((x / (1000 : Int32)) * (x / (1000 : Int32))) * (f (18 + 4 * i) 5)) / (500 : Int32)))) / (32 : Int32)))) 7 ((f (18 + 4 * i) 7) + ((((x * (f 4 25)) / (1000 : Int32)) - (f (18 + 4 * i) 7)) / (8 : Int32)))) 9 ((f (18 + 4 * i) 9) + (t2_abs_v x))) = M1
  have m9 : M1 (18 + 4 * i) 9 = f (18 + 4 * i) 9 + t2_abs_v x := by rw [← hM, fl_row_self, upd_self]
  have m7 : M1 (18 + 4 * i) 7 = f (18 + 4 * i) 7 + (((x * f 4 25) / (1000 : Int32)) - f (18 + 4 * i) 7) / (8 : Int32) := by rw [← hM, fl_row_self, upd_ne (by decide), upd_self]
  refine ⟨?_, ?_⟩
  · simp (disch := omega) only [fl_row_self, upd_ne]
    have := c0_wear_9 (f := M1) (i := i) (x := f 4 24) (by rw [m9]; exact h0)
    rw [m9] at this
    exact this
  · simp (disch := omega) only [fl_row_self, upd_ne]
    rw [c0_wear_o (by decide) (by decide) (by decide), m7]
/-- (3) -/
theorem c0_I.cells (h : c0_I fc fr) (hth : ∀ C : Nat, C < (fr 280 2).toInt.toNat → (fr 280 (444 + 61 * C + 5)).toInt ≤ 99999 * ((fr 280 7).toInt - 1)) : c0_I (c0_passCells_m fc) (r_goCells_m fr) := by
  have hh := h
  obtain ⟨⟨⟨g5, g6, g7, g8⟩, ⟨g9, g10, g11, g12⟩, g13, g14, g15, g16⟩, rs, gx, cl, ok⟩ := h
  have cn := hh.cnt
  generalize hnn : (fr 280 2).toInt.toNat = n at *
  have hM : (fc 1 5).toInt.toNat = n := by omega
  have xb := ok.2.1.1
  have ab := t2_abs_b xb
  have tb := ok.2.1.2.2.2
  have s24 : fc 4 24 = fr 280 58 := rs 24 (by decide)
  have s25 : fc 4 25 = fr 280 59 := rs 25 (by decide)
  have b24 : t2_lo 24 ≤ (fr 280 58).toInt ∧ (fr 280 58).toInt ≤ t2_hi 24 := ok.s (k := 24) (by decide)
  have b25 : t2_lo 25 ≤ (fr 280 59).toInt ∧ (fr 280 59).toInt ≤ t2_hi 25 := ok.s (k := 25) (by decide)
  have q24 : t2_lo 24 = 0 ∧ t2_hi 24 = 9999 ∧ t2_lo 25 = 0 ∧ t2_hi 25 = 99 := by decide
  have c36 : (3600 : Int32).toInt = 3600 := by decide +kernel
  have oc : ∀ C : Nat, C < n → t2_OC (fr 280) C := fun C hC => (hh.cell (by omega)).2
  have rc : ∀ C : Nat, C < n → c0_Rc fc fr C := fun C hC => (hh.cell (by omega)).1.1
  have sum : ∀ C : Nat, C < n → (fc (18 + 4 * C) 9 + t2_abs_v (fr 280 5)).toInt = (fr 280 (444 + 61 * C + 5)).toInt + (t2_abs_v (fr 280 5)).toInt := fun C hC => by
    obtain ⟨-, -, -, t, -, -, -, -⟩ := oc C hC
    have r9 := (rc C hC).2.2.2.2.1
    rw [r9, at_add32 (by omega) (by omega)]
  have key := c0_cells_eq (n := n) hM hnn g9 rs rc (fun C hC => by
    obtain ⟨k1, -, k3, t, -, -, -, -⟩ := oc C hC
    have r0 := (rc C hC).1.1
    have r8 := (rc C hC).2.2.2.1
    refine ⟨by rw [r0]; exact k1.1, by rw [r0, r8]; exact k3, ?_⟩
    rw [sum C hC]
    omega) (by rw [s24, at_mul32] <;> rw [c36] <;> omega)
  have P : ∀ p : Nat, (p < 18 ∨ ∀ C : Nat, C < 16 → p ≠ 18 + 4 * C) → c0_passCells_m fc p = fc p := fun p hp => c0_cells_p hp (by omega)
  have W : ∀ w : Nat, w < 444 → r_goCells_m fr 280 w = fr 280 w := fun w hw => r_cells_lo hw
  have Wc : ∀ C w : Nat, w < 61 → w ≠ 0 ∧ w ≠ 1 ∧ w ≠ 3 ∧ w ≠ 4 ∧ w ≠ 5 ∧ w ≠ 9 → r_goCells_m fr 280 (444 + 61 * C + w) = fr 280 (444 + 61 * C + w) := fun C w hw h => r_cells_o hnn hw h
  have P1 : c0_passCells_m fc 1 = fc 1 := P _ (Or.inl (by decide))
  refine ⟨⟨⟨?_, ?_, ?_, ?_⟩, ⟨?_, ?_, ?_, ?_⟩, ?_, ?_, ?_, ?_⟩, rs.congr (P _ (Or.inl (by decide))) (fun k hk => W _ (by omega)), gx.congr ok.2.2.2.2.2.1.1.2 (fun p hp => P p (by rcases hp with q | q; exact Or.inl (by omega); exact Or.inr (fun C hC => by omega))) (fun w hw => W w (by omega)), fun C hC => ?_, ?_⟩
  · rw [P1, W 2 (by decide), g5]
  · rw [P1, W 7 (by decide), g6]
  · rw [P1, W 3 (by decide), g7]
  · rw [P1, W 4 (by decide), g8]
  · rw [P1, W 5 (by decide), g9]
  · rw [P1, W 14 (by decide), g10]
  · rw [P1, W 8 (by decide), g11]
  · rw [P1, W 9 (by decide), g12]
  · rw [P1, W 10 (by decide), g13]
  · rw [P1, W 11 (by decide), g14]
  · rw [P1, W 12 (by decide), g15]
  · rw [P1, W 13 (by decide), g16]
  · rw [W 2 (by decide)] at hC
    have hC' : C < n := by omega
    exact ⟨(key C hC').1, (cl C hC).2.congr (fun j j1 _ => c0_cells_o hM hC' (Or.inr (Or.inr j1))) (fun p hp => P p (Or.inr (fun D hD => by omega))) (fun w hw => Wc C w (by omega) (by omega))⟩
  · refine ok.upd (fun w hw => W w (by omega)) (fun k hk => by rw [W _ (by omega)]; exact ok.s hk) (by rw [W 5 (by decide)]; exact ok.2.1.1) (by rw [W 4 (by decide)]; exact ok.2.1.2.1) (by rw [W 7 (by decide)]; exact ok.2.1.2.2.2) (by rw [W 16 (by decide), W 20 (by decide), W 21 (by decide)]; exact ok.2.2.2.2.2.2.1) (fun C hC => ?_)
    have hC' : C < n := by omega
    obtain ⟨k1, k2, k3, t, po, k15, k16, ka⟩ := oc C hC'
    obtain ⟨rc', cap⟩ := key C hC'
    obtain ⟨⟨a0, -, -⟩, -, ⟨-, -, a7⟩, a8, a9, -⟩ := rc'
    rw [a0] at cap
    have Rw : ∀ w : Nat, w < 61 → r_goCells_m fr 280 (444 + 61 * C + w) = r_goOld_m (r_goCells_f50 fr C) (Int32.ofNat C) C 280 (444 + 61 * C + w) := by
      intro w hw
      unfold r_goCells_m
      rw [hnn, r_f50_in hw hC']
    obtain ⟨⟨v1, e1⟩, ⟨v4, e4⟩⟩ := r_old_held (f := r_goCells_f50 fr C) (c := Int32.ofNat C) (C := C)
    rw [← Rw 1 (by decide), ← Rw 0 (by decide)] at e1
    rw [← Rw 4 (by decide), ← Rw 0 (by decide)] at e4
    have ck : t2_ck (r_goCells_m fr) C := c0_ck_held cap rfl e1
    have p4 : r_P4 (r_goCells_m fr) C := r_P4_held cap rfl e4
    have FC : c0_passCells_f2 fc C (18 + 4 * C) = fc (18 + 4 * C) := c0_passCells_f2_fr (k := C) (p := 18 + 4 * C) (fun j hj => by omega)
    have F4 : c0_passCells_f2 fc C 4 = fc 4 := c0_passCells_f2_fr (k := C) (p := 4) (fun j hj => by omega)
    have Pj : ∀ j : Nat, j ≠ 6 → c0_passCells_m fc (18 + 4 * C) j = c0_pass_m (c0_passCells_f2 fc C) C (fr 280 5) (18 + 4 * C) j := by
      intro j hj
      unfold c0_passCells_m
      rw [c0_f35_o hj, hM, c0_f2_at hC', g9]
    obtain ⟨u9, u7⟩ := c0_pass_9 (f := c0_passCells_f2 fc C) (i := C) (x := fr 280 5) (by rw [FC, sum C hC']; omega)
    rw [← Pj 9 (by decide), FC, a9, sum C hC'] at u9
    rw [← Pj 7 (by decide), FC, F4, a7, s25, (rc C hC').2.2.1.2.2] at u7
    have th := hth C (by omega)
    refine ⟨ck, ?_, p4.2, ?_, ?_, ?_, ?_, ka.congr (fun w hw => Wc C w (by omega) (by omega))⟩
    · rw [Wc C 2 (by decide) (by decide)]
      exact k2
    · rw [W 7 (by decide)]
      omega
    · rw [u7]
      exact t2_polar_b po xb (by omega)
    · rw [Wc C 15 (by decide) (by decide)]
      exact k15
    · rw [Wc C 16 (by decide) (by decide)]
      exact k16
/-- (4) -/
theorem c0_I.bal (h : c0_I fc fr) : c0_I (c0_balance_m fc) (r_goBalance_m fr) := by
  have hh := h
  obtain ⟨⟨⟨g5, g6, g7, g8⟩, ⟨g9, g10, g11, g12⟩, g13, g14, g15, g16⟩, rs, gx, cl, ok⟩ := h
  have cn := hh.cnt
  generalize hnn : (fr 280 2).toInt.toNat = n at *
  have hM : (fc 1 5).toInt.toNat = n := by omega
  have oc : ∀ C : Nat, C < n → t2_OC (fr 280) C := fun C hC => (hh.cell (by omega)).2
  have rc : ∀ C : Nat, C < n → c0_Rc fc fr C := fun C hC => (hh.cell (by omega)).1.1
  have rb : c0_RB fc fr n := ⟨rs, fun C hC => ⟨rc C hC, by rw [(rc C hC).1.1]; exact (oc C hC).1.1, (oc C hC).1⟩, g14, g15, g11, g13, g16⟩
  have b13 : t2_lo 13 ≤ (fr 280 47).toInt ∧ (fr 280 47).toInt ≤ t2_hi 13 := ok.s (k := 13) (by decide)
  have q13 : t2_lo 13 = 0 ∧ t2_hi 13 = 16 := by decide
  have hl : fc 10 3 = fr 280 6 := gx.2.1.1.1
  obtain ⟨rs', k, e14, e15, e11, e13, e16⟩ := c0_balance_eq hM hnn cn.2.1 rb hl g6 (by omega)
  obtain ⟨P, Q, Pc, Wc⟩ := c0_balance_o hM hnn cn.2.1 rb hl g6 (by omega)
  have W : ∀ w : Nat, (w < 444 ∧ w ≠ 8 ∧ w ≠ 10 ∧ w ≠ 11 ∧ w ≠ 12 ∧ w ≠ 13) → r_goBalance_m fr 280 w = fr 280 w := fun w hw => r_goBalance_w hw
  refine ⟨⟨⟨?_, ?_, ?_, ?_⟩, ⟨?_, ?_, e11, ?_⟩, e13, e14, e15, e16⟩, rs', gx.congr ok.2.2.2.2.2.1.1.2 (fun p hp => P p (by omega) (fun C hC => by omega)) (fun w hw => W w (by omega)), fun C hC => ?_, ?_⟩
  · rw [Q 5 (by decide) (by decide) (by decide) (by decide) (by decide), W 2 (by decide), g5]
  · rw [Q 6 (by decide) (by decide) (by decide) (by decide) (by decide), W 7 (by decide), g6]
  · rw [Q 7 (by decide) (by decide) (by decide) (by decide) (by decide), W 3 (by decide), g7]
  · rw [Q 8 (by decide) (by decide) (by decide) (by decide) (by decide), W 4 (by decide), g8]
  · rw [Q 9 (by decide) (by decide) (by decide) (by decide) (by decide), W 5 (by decide), g9]
  · rw [Q 10 (by decide) (by decide) (by decide) (by decide) (by decide), W 14 (by decide), g10]
  · rw [Q 12 (by decide) (by decide) (by decide) (by decide) (by decide), W 9 (by decide), g12]
  · rw [W 2 (by decide)] at hC
    have hC' : C < n := by omega
    exact ⟨(k C hC').1, (cl C hC).2.congr (fun j j1 _ => Pc C hC' j (by omega) (by omega) (by omega) (by omega)) (fun p hp => P p (by omega) (fun D hD => by omega)) (fun w hw => Wc C hC' w (by omega) (by omega) (by omega))⟩
  · refine ok.upd (fun w hw => W w (by omega)) (fun k hk => by rw [W _ (by omega)]; exact ok.s hk) (by rw [W 5 (by decide)]; exact ok.2.1.1) (by rw [W 4 (by decide)]; exact ok.2.1.2.1) (by rw [W 7 (by decide)]; exact ok.2.1.2.2.2) (by rw [W 16 (by decide), W 20 (by decide), W 21 (by decide)]; exact ok.2.2.2.2.2.2.1) (fun C hC => ?_)
    have hC' : C < n := by omega
    obtain ⟨k1, k2, k3, t, po, k15, k16, ka⟩ := oc C hC'
    have p4 : r_P4 (r_goBalance_m fr) C := r_balance_P4 ⟨k1.1, k3⟩
    refine ⟨(k C hC').2.2, ?_, p4.2, ?_, ?_, ?_, ?_, ka.congr (fun w hw => Wc C hC' w (by omega) (by omega) (by omega))⟩
    · rw [Wc C hC' 2 (by decide) (by decide) (by decide)]
      exact k2
    · rw [W 7 (by decide), Wc C hC' 5 (by decide) (by decide) (by decide)]
      exact t
    · rw [Wc C hC' 9 (by decide) (by decide) (by decide)]
      exact po
    · rw [Wc C hC' 15 (by decide) (by decide) (by decide)]
      exact k15
    · rw [Wc C hC' 16 (by decide) (by decide) (by decide)]
      exact k16
/-- (5) -/
noncomputable def c0_s5 (f : t2_F) : t2_F := fl_row f 1 (upd (f 1) 11 (f 1 11 + (f 4 6 - f 1 11) / (16 : Int32)))
noncomputable def r_t5 (f : t2_F) : t2_F := fl_row f 280 (upd (f 280) 8 (f 280 8 + (f 280 40 - f 280 8) / (16 : Int32)))
theorem c0_I.s5 (h : c0_I fc fr) : c0_I (c0_s5 fc) (r_t5 fr) := by
  have hh := h
  obtain ⟨⟨⟨g5, g6, g7, g8⟩, ⟨g9, g10, g11, g12⟩, g13, g14, g15, g16⟩, rs, gx, cl, ok⟩ := h
  have s6 : fc 4 6 = fr 280 40 := rs 6 (by decide)
  have P : ∀ p : Nat, p ≠ 1 → c0_s5 fc p = fc p := fun p hp => fl_row_ne hp
  have Q : ∀ j : Nat, j ≠ 11 → c0_s5 fc 1 j = fc 1 j := fun j hj => by unfold c0_s5; rw [fl_row_self, upd_ne hj]
  have W : ∀ w : Nat, w ≠ 8 → r_t5 fr 280 w = fr 280 w := fun w hw => by unfold r_t5; rw [fl_row_self, upd_ne hw]
  refine ⟨⟨⟨?_, ?_, ?_, ?_⟩, ⟨?_, ?_, ?_, ?_⟩, ?_, ?_, ?_, ?_⟩, rs.congr (P _ (by decide)) (fun k hk => W _ (by omega)), gx.congr ok.2.2.2.2.2.1.1.2 (fun p hp => P p (by omega)) (fun w hw => W w (by omega)), fun C hC => ?_, ?_⟩
  · rw [Q 5 (by decide), W 2 (by decide), g5]
  · rw [Q 6 (by decide), W 7 (by decide), g6]
  · rw [Q 7 (by decide), W 3 (by decide), g7]
  · rw [Q 8 (by decide), W 4 (by decide), g8]
  · rw [Q 9 (by decide), W 5 (by decide), g9]
  · rw [Q 10 (by decide), W 14 (by decide), g10]
  · unfold c0_s5 r_t5
    rw [fl_row_self, upd_self, fl_row_self, upd_self, s6, g11]
  · rw [Q 12 (by decide), W 9 (by decide), g12]
  · rw [Q 13 (by decide), W 10 (by decide), g13]
  · rw [Q 14 (by decide), W 11 (by decide), g14]
  · rw [Q 15 (by decide), W 12 (by decide), g15]
  · rw [Q 16 (by decide), W 13 (by decide), g16]
  · rw [W 2 (by decide)] at hC
    exact ⟨(cl C hC).1.congr (P _ (by omega)) (fun k hk => W _ (by omega)), (cl C hC).2.congr (fun j _ _ => by rw [P _ (by omega)]) (fun p hp => P p (by omega)) (fun w hw => W _ (by omega))⟩
  · refine ok.upd (fun w hw => W w (by omega)) (fun k hk => by rw [W _ (by omega)]; exact ok.s hk) (by rw [W 5 (by decide)]; exact ok.2.1.1) (by rw [W 4 (by decide)]; exact ok.2.1.2.1) (by rw [W 7 (by decide)]; exact ok.2.1.2.2.2) (by rw [W 16 (by decide), W 20 (by decide), W 21 (by decide)]; exact ok.2.2.2.2.2.2.1) (fun C hC => ?_)
    exact (hh.2.2.2.2.2.2.2.2.2.2.2 C hC).congr (fun w hw => W _ (by omega)) (by rw [W 7 (by decide)]; exact Int.le_refl _)
end C0STA

/-! ===== block 2: a second, part by part, keeps THE RELATION ===== -/
section C2STA
variable {fc fr fc' fr' f g : t2_F} {C n : Nat} {c x : Int32}
def c2_GX (fc fr : t2_F) : Prop := c2_GT fc fr ∧ c2_GW fc fr ∧ c2_Tr fc fr ∧ c2_GM fc fr
theorem c2_GX.congr (h : c2_GX fc fr) (hn : (fr 280 19).toInt ≤ 24) (ep : ∀ p : Nat, (p ≠ 181 ∧ p ≠ 184 ∧ p < 198) ∨ (262 ≤ p ∧ p < 271) → fc' p = fc p) (e : ∀ w : Nat, (w = 6 ∨ (15 ≤ w ∧ w < 34) ∨ (64 ≤ w ∧ w < 444)) → fr' 280 w = fr 280 w) : c2_GX fc' fr' := by
  obtain ⟨h1, h2, h3, h4⟩ := h
  exact ⟨h1.congr hn (ep _ (by decide)) (ep _ (by decide)) (ep _ (by decide)) (ep _ (by decide)) (ep _ (by decide)) (ep _ (by decide)) (fun w hw => e w (by omega)), h2.congr (ep _ (by decide)) (ep _ (by decide)) (ep _ (by decide)) (ep _ (by decide)) (ep _ (by decide)) (fun w hw => e w (by omega)), h3.congr (ep _ (by decide)) (ep _ (by decide)) (fun w hw => e w (by omega)), h4.congr (fun p hp => ep p (Or.inr hp)) (fun w hw => e w (by omega))⟩
def c2_I (fc fr : t2_F) : Prop := c2_GS fc fr ∧ c2_Rs fc fr ∧ c2_GX fc fr ∧ (∀ C : Nat, (C : Int) < (fr 280 2).toInt → c2_Rc fc fr C ∧ c2_GC fc fr C) ∧ t2_OK (fr 280)
theorem c2_Rc.c18 (h : c2_Rc fc fr C) (ep : ∀ j : Nat, j < 10 → fc' (198 + 4 * C) j = fc (198 + 4 * C) j) (e18 : fc' (198 + 4 * C) 18 = fr' 280 (444 + 61 * C + 60)) (er : ∀ w : Nat, (w < 7 ∨ w = 9) → fr' 280 (444 + 61 * C + w) = fr 280 (444 + 61 * C + w)) : c2_Rc fc' fr' C := by
  unfold c2_Rc r_partOf_v at *
  rw [ep 0 (by decide), ep 1 (by decide), ep 2 (by decide), ep 3 (by decide), ep 4 (by decide), ep 5 (by decide), ep 6 (by decide), ep 7 (by decide), ep 8 (by decide), ep 9 (by decide), er 0 (by omega), er 1 (by omega), er 2 (by omega), er 3 (by omega), er 4 (by omega), er 5 (by omega), er 6 (by omega), er 9 (by omega)]
  obtain ⟨a, b, d, i, j, -⟩ := h
  exact ⟨a, b, d, i, j, e18⟩
theorem c2_I.cnt (h : c2_I fc fr) : (fr 280 2).toInt = (((fr 280 2).toInt.toNat : Nat) : Int) ∧ (fr 280 2).toInt.toNat ≤ 16 ∧ (fc 181 5).toInt = (((fr 280 2).toInt.toNat : Nat) : Int) := by
  obtain ⟨⟨⟨h5, -⟩, -⟩, -, -, -, -, ⟨-, -, h2, -⟩, -⟩ := h
  rw [h5]
  omega
theorem c2_I.cell (h : c2_I fc fr) {C : Nat} (hC : C < (fr 280 2).toInt.toNat) : (c2_Rc fc fr C ∧ c2_GC fc fr C) ∧ t2_OC (fr 280) C := by
  have q : (C : Int) < (fr 280 2).toInt := by have := h.cnt; omega
  exact ⟨h.2.2.2.1 C q, h.2.2.2.2.2.2.2.2.2.2.2 C q⟩
theorem c2_I.rl (h : c2_I fc fr) : c2_RL fc fr ((fr 280 2).toInt.toNat) := ⟨⟨h.cnt.2.1, h.cnt.2.2, h.cnt.1⟩, h.2.1, h.2.2.1.1.2.1, h.2.2.2.2.2.2.2.1.1, fun C hC => (h.cell hC).1.1⟩
theorem c2_I.far (h : c2_I fc fr) {C : Nat} (hC : C < (fr 280 2).toInt.toNat) : t2_far (fr 280 5) (fr 280 (444 + 61 * C + 2)) := t2_far_ok h.2.2.2.2.2.1.1 (h.cell hC).2.2.1
noncomputable def c2_s1 (f : t2_F) : t2_F := fl_row f 181 (upd (f 181) 6 (t2_min_v (f 181 6 + (1 : Int32)) (9999 : Int32)))
theorem c2_I.s1 (h : c2_I fc fr) (ht : (fr 280 7).toInt < 9999) : c2_I (c2_s1 fc) (r_t1 fr) ∧ (r_t1 fr 280 7).toInt = (fr 280 7).toInt + 1 := by
  have hh := h
  obtain ⟨⟨⟨g5, g6, g7, g8⟩, ⟨g9, g10, g11, g12⟩, g13, g14, g15, g16⟩, rs, gx, cl, ok⟩ := h
  have t0 : 0 ≤ (fr 280 7).toInt := ok.2.1.2.2.2.1
  have c1 : (1 : Int32).toInt = 1 := by decide +kernel
  have c9 : (9999 : Int32).toInt = 9999 := by decide +kernel
  have e7 : (fr 280 7 + (1 : Int32)).toInt = (fr 280 7).toInt + 1 := by rw [at_add32 (by omega) (by omega), c1]
  have P : ∀ p : Nat, p ≠ 181 → c2_s1 fc p = fc p := fun p hp => fl_row_ne hp
  have Q : ∀ j : Nat, j ≠ 6 → c2_s1 fc 181 j = fc 181 j := fun j hj => by unfold c2_s1; rw [fl_row_self, upd_ne hj]
  have W : ∀ w : Nat, w ≠ 7 → r_t1 fr 280 w = fr 280 w := fun w hw => by unfold r_t1; rw [fl_row_self, upd_ne hw]
  have w7 : r_t1 fr 280 7 = fr 280 7 + (1 : Int32) := by unfold r_t1; rw [fl_row_self, upd_self]
  have q6 : c2_s1 fc 181 6 = fr 280 7 + (1 : Int32) := by
    unfold c2_s1
    rw [fl_row_self, upd_self, g6]
    apply Int32.toInt.inj
    rw [t2_min_i]
    omega
  refine ⟨⟨⟨⟨?_, ?_, ?_, ?_⟩, ⟨?_, ?_, ?_, ?_⟩, ?_, ?_, ?_, ?_⟩, rs.congr (P _ (by decide)) (fun k hk => W _ (by omega)), gx.congr ok.2.2.2.2.2.1.1.2 (fun p hp => P p (by omega)) (fun w hw => W w (by omega)), fun C hC => ?_, ?_⟩, by rw [w7, e7]⟩
  · rw [Q 5 (by decide), W 2 (by decide), g5]
  · rw [q6, w7]
  · rw [Q 7 (by decide), W 3 (by decide), g7]
  · rw [Q 8 (by decide), W 4 (by decide), g8]
  · rw [Q 9 (by decide), W 5 (by decide), g9]
  · rw [Q 10 (by decide), W 14 (by decide), g10]
  · rw [Q 11 (by decide), W 8 (by decide), g11]
  · rw [Q 12 (by decide), W 9 (by decide), g12]
  · rw [Q 13 (by decide), W 10 (by decide), g13]
  · rw [Q 14 (by decide), W 11 (by decide), g14]
  · rw [Q 15 (by decide), W 12 (by decide), g15]
  · rw [Q 16 (by decide), W 13 (by decide), g16]
  · rw [W 2 (by decide)] at hC
    exact ⟨(cl C hC).1.congr (P _ (by omega)) (fun k hk => W _ (by omega)), (cl C hC).2.congr (fun j _ _ => by rw [P _ (by omega)]) (fun p hp => P p (by omega)) (fun w hw => W _ (by omega))⟩
  · refine ok.upd (fun w hw => W w (by omega)) (fun k hk => by rw [W _ (by omega)]; exact ok.s hk) (by rw [W 5 (by decide)]; exact ok.2.1.1) (by rw [W 4 (by decide)]; exact ok.2.1.2.1) (by rw [w7, e7]; omega) (by rw [W 16 (by decide), W 20 (by decide), W 21 (by decide)]; exact ok.2.2.2.2.2.2.1) (fun C hC => ?_)
    exact (hh.2.2.2.2.2.2.2.2.2.2.2 C hC).congr (fun w hw => W _ (by omega)) (by rw [w7, e7]; omega)
theorem c2_I.bus (h : c2_I fc fr) : c2_I (c2_moveBus_m fc) (r_goBus_m fr) ∧ c2_moveBus_v fc = r_goBus_m fr 277 4 ∧ (r_goBus_m fr 277 4 = 0 ∨ r_goBus_m fr 277 4 = 1) ∧ ∀ j : Nat, j ≠ 4 → r_goBus_m fr 277 j = fr 277 j := by
  have hh := h
  obtain ⟨⟨⟨g5, g6, g7, g8⟩, ⟨g9, g10, g11, g12⟩, g13, g14, g15, g16⟩, rs, gx, cl, ok⟩ := h
  have cn := hh.cnt
  have bp : -160000 ≤ (r_packCalm_v fr).toInt ∧ (r_packCalm_v fr).toInt ≤ 235200 := by
    have b := r_packCalm_b (f := fr) (n := (fr 280 2).toInt.toNat) cn.2.1 (fun C hC => (hh.cell hC).2.2.2.2.2.1)
    have e : r_packCalm_v fr = r_packCalm_a4 fr ((fr 280 2).toInt.toNat) := rfl
    rw [e]
    omega
  have bb := ok.2.1.2.1
  obtain ⟨hp, hj⟩ := c2_bus_eq (n := (fr 280 2).toInt.toNat) cn.2.2 g5 (fun C hC => (hh.cell hC).1.1) g7 g8 rs gx.1.1 ok.2.2.1 (by omega) (by omega)
  have sl := c2_slow_eq g7 g8 rs hp hj
  refine ⟨?_, sl⟩
  have P : ∀ p : Nat, p ≠ 181 → c2_moveBus_m fc p = fc p := fun p hp => c2_moveBus_fr hp
  have Q : ∀ j : Nat, j ≠ 7 → j ≠ 8 → c2_moveBus_m fc 181 j = fc 181 j := fun j h7 h8 => by rw [c2_moveBus_w, if_neg h8, if_neg h7]
  have W : ∀ w : Nat, w ≠ 3 → w ≠ 4 → r_goBus_m fr 280 w = fr 280 w := fun w h3 h4 => by rw [r_goBus_w2, if_neg h4, if_neg h3]
  have w4 : r_goBus_m fr 280 4 = r_goBus_j16_0 fr := by rw [r_goBus_w2, if_pos rfl]
  have j16 := r_bus_b (f := fr) bb bp (ok.s (k := 7) (by decide))
  refine ⟨⟨⟨?_, ?_, ?_, ?_⟩, ⟨?_, ?_, ?_, ?_⟩, ?_, ?_, ?_, ?_⟩, rs.congr (P _ (by decide)) (fun k hk => W _ (by omega) (by omega)), gx.congr ok.2.2.2.2.2.1.1.2 (fun p hp => P p (by omega)) (fun w hw => W w (by omega) (by omega)), fun C hC => ?_, ?_⟩
  · rw [Q 5 (by decide) (by decide), W 2 (by decide) (by decide), g5]
  · rw [Q 6 (by decide) (by decide), W 7 (by decide) (by decide), g6]
  · rw [c2_moveBus_w, r_goBus_w2, if_neg (by decide : ¬ (7 : Nat) = 8), if_pos rfl, if_neg (by decide : ¬ (3 : Nat) = 4), if_pos rfl, g7, hp, hj, t2_m32 (r_goBus_j16_0 fr) (1000 : Int32)]
  · rw [c2_moveBus_w, if_pos rfl, w4, hj]
  · rw [Q 9 (by decide) (by decide), W 5 (by decide) (by decide), g9]
  · rw [Q 10 (by decide) (by decide), W 14 (by decide) (by decide), g10]
  · rw [Q 11 (by decide) (by decide), W 8 (by decide) (by decide), g11]
  · rw [Q 12 (by decide) (by decide), W 9 (by decide) (by decide), g12]
  · rw [Q 13 (by decide) (by decide), W 10 (by decide) (by decide), g13]
  · rw [Q 14 (by decide) (by decide), W 11 (by decide) (by decide), g14]
  · rw [Q 15 (by decide) (by decide), W 12 (by decide) (by decide), g15]
  · rw [Q 16 (by decide) (by decide), W 13 (by decide) (by decide), g16]
  · rw [W 2 (by decide) (by decide)] at hC
    exact ⟨(cl C hC).1.congr (P _ (by omega)) (fun k hk => W _ (by omega) (by omega)), (cl C hC).2.congr (fun j _ _ => by rw [P _ (by omega)]) (fun p hp => P p (by omega)) (fun w hw => W _ (by omega) (by omega))⟩
  · refine ok.upd (fun w hw => W w (by omega) (by omega)) (fun k hk => by rw [W _ (by omega) (by omega)]; exact ok.s hk) (by rw [W 5 (by decide) (by decide)]; exact ok.2.1.1) (by rw [w4]; exact j16) (by rw [W 7 (by decide) (by decide)]; exact ok.2.1.2.2.2) (by rw [W 16 (by decide) (by decide), W 20 (by decide) (by decide), W 21 (by decide) (by decide)]; exact ok.2.2.2.2.2.2.1) (fun C hC => ?_)
    exact (hh.2.2.2.2.2.2.2.2.2.2.2 C hC).congr (fun w hw => W _ (by omega) (by omega)) (by rw [W 7 (by decide) (by decide)]; exact Int.le_refl _)
theorem c2_I.cur (h : c2_I fc fr) : c2_I (c2_letCurrent_m fc) (r_goCurrent_m fr) ∧ ∀ w : Nat, w ≠ 5 → (∀ C : Nat, C < (fr 280 2).toInt.toNat → w ≠ 444 + 61 * C + 60) → r_goCurrent_m fr 280 w = fr 280 w := by
  have hh := h
  obtain ⟨⟨⟨g5, g6, g7, g8⟩, ⟨g9, g10, g11, g12⟩, g13, g14, g15, g16⟩, rs, gx, cl, ok⟩ := h
  have cn := hh.cnt
  have rl := hh.rl
  have hm0 : t2_lo 4 ≤ (fr 280 38).toInt ∧ (fr 280 38).toInt ≤ t2_hi 4 := ok.s (k := 4) (by decide)
  have l4 : t2_lo 4 = 1 := by decide
  have h4 : t2_hi 4 = 99999 := by decide
  have hm : 0 ≤ (fr 280 38).toInt ∧ (fr 280 38).toInt ≤ 99999 := by omega
  obtain ⟨k1, k2, k3, k4, k5⟩ := c2_cur_eq rl g7 gx.1.1 ok.2.2.1 hm
  refine ⟨?_, k5⟩
  have P : ∀ p : Nat, p ≠ 181 → (∀ C : Nat, C < (fr 280 2).toInt.toNat → p ≠ 198 + 4 * C) → c2_letCurrent_m fc p = fc p := fun p hp hC => funext (fun k => k4 p k (fun q => absurd q hp) (fun C c q => absurd q (hC C c)))
  have Q : ∀ j : Nat, j ≠ 9 → c2_letCurrent_m fc 181 j = fc 181 j := fun j hj => k4 181 j (fun _ => hj) (fun C _ q => absurd q (by omega))
  have W : ∀ w : Nat, w ≠ 5 → w < 444 → r_goCurrent_m fr 280 w = fr 280 w := fun w h5 hw => k5 w h5 (fun C _ => by omega)
  have Wc : ∀ C w : Nat, w < 60 → r_goCurrent_m fr 280 (444 + 61 * C + w) = fr 280 (444 + 61 * C + w) := fun C w hw => k5 _ (by omega) (fun D _ => by omega)
  have cb : -99999 ≤ (r_goCurrent_j9_0 fr).toInt ∧ (r_goCurrent_j9_0 fr).toInt ≤ 99999 := by
    have c0 : (0 : Int32).toInt = 0 := rfl
    have l0 := rl.lim_nn (x := (0 : Int32)) hm
    have l1 := rl.lim_nn (x := (1 : Int32)) hm
    have n1 : (-(r_limitOf_v fr (1 : Int32))).toInt = -(r_limitOf_v fr (1 : Int32)).toInt := by rw [Int32.toInt_neg]; exact Int.bmod_eq_of_le (by omega) (by omega)
    unfold r_goCurrent_j9_0
    split
    · omega
    · have := t2_heldTo_b (v := fr 280 54) (lo := -(r_limitOf_v fr (1 : Int32))) (hi := r_limitOf_v fr (0 : Int32)) (by omega)
      have e : r_held_v (fr 280 54) (-(r_limitOf_v fr (1 : Int32))) (r_limitOf_v fr (0 : Int32)) = t2_heldTo_v (fr 280 54) (-(r_limitOf_v fr (1 : Int32))) (r_limitOf_v fr (0 : Int32)) := rfl
      rw [e]
      omega
  refine ⟨⟨⟨?_, ?_, ?_, ?_⟩, ⟨?_, ?_, ?_, ?_⟩, ?_, ?_, ?_, ?_⟩, rs.congr (P _ (by decide) (fun C _ => by omega)) (fun k hk => W _ (by omega) (by omega)), gx.congr ok.2.2.2.2.2.1.1.2 (fun p hp => P p (by omega) (fun C hC => by omega)) (fun w hw => W w (by omega) (by omega)), fun C hC => ?_, ?_⟩
  · rw [Q 5 (by decide), W 2 (by decide) (by decide), g5]
  · rw [Q 6 (by decide), W 7 (by decide) (by decide), g6]
  · rw [Q 7 (by decide), W 3 (by decide) (by decide), g7]
  · rw [Q 8 (by decide), W 4 (by decide) (by decide), g8]
  · rw [k1, k2]
  · rw [Q 10 (by decide), W 14 (by decide) (by decide), g10]
  · rw [Q 11 (by decide), W 8 (by decide) (by decide), g11]
  · rw [Q 12 (by decide), W 9 (by decide) (by decide), g12]
  · rw [Q 13 (by decide), W 10 (by decide) (by decide), g13]
  · rw [Q 14 (by decide), W 11 (by decide) (by decide), g14]
  · rw [Q 15 (by decide), W 12 (by decide) (by decide), g15]
  · rw [Q 16 (by decide), W 13 (by decide) (by decide), g16]
  · rw [W 2 (by decide) (by decide)] at hC
    have hC' : C < (fr 280 2).toInt.toNat := by omega
    have R : ∀ j : Nat, j ≠ 18 → c2_letCurrent_m fc (198 + 4 * C) j = fc (198 + 4 * C) j := fun j hj => k4 _ j (fun q => absurd q (by omega)) (fun _ _ _ => hj)
    exact ⟨(cl C hC).1.c18 (fun j hj => R j (by omega)) (k3 C hC') (fun w hw => Wc C w (by omega)), (cl C hC).2.congr (fun j _ _ => R j (by omega)) (fun p hp => P p (by omega) (fun D hD => by omega)) (fun w hw => Wc C w (by omega))⟩
  · refine ok.upd (fun w hw => W w (by omega) (by omega)) (fun k hk => by rw [W _ (by omega) (by omega)]; exact ok.s hk) (by rw [k2]; exact cb) (by rw [W 4 (by decide) (by decide)]; exact ok.2.1.2.1) (by rw [W 7 (by decide) (by decide)]; exact ok.2.1.2.2.2) (by rw [W 16 (by decide) (by decide), W 20 (by decide) (by decide), W 21 (by decide) (by decide)]; exact ok.2.2.2.2.2.2.1) (fun C hC => ?_)
    exact (hh.2.2.2.2.2.2.2.2.2.2.2 C hC).congr (fun w hw => Wc C w (by omega)) (by rw [W 7 (by decide) (by decide)]; exact Int.le_refl _)
theorem c2_wear_9 {i : Nat} (h0 : 0 ≤ (f (198 + 4 * i) 9).toInt) : 0 ≤ (c2_wear_m f i x (198 + 4 * i) 9).toInt ∧ (c2_wear_m f i x (198 + 4 * i) 9).toInt ≤ (f (198 + 4 * i) 9).toInt := by
  unfold c2_wear_m c2_putReckoned_m
  split
  · split
    · omega
    · rename_i h1 h2
      rw [fl_row_self, upd_ne (by decide), fl_row_self, upd_self]
      generalize f (198 + 4 * i) 9 = t at *
      generalize x * (3600 : Int32) = l at *
      obtain ⟨d1, -, -, -⟩ := t2_irem h0 h1
      have m0 := Int.emod_nonneg t.toInt (show l.toInt ≠ 0 by omega)
      have ml := Int.emod_lt_of_pos t.toInt h1
      rw [d1]
      omega
  · omega
theorem c2_pass_9 {i : Nat} (h0 : 0 ≤ (f (198 + 4 * i) 9 + t2_abs_v x).toInt) : (0 ≤ (c2_pass_m f i x (198 + 4 * i) 9).toInt ∧ (c2_pass_m f i x (198 + 4 * i) 9).toInt ≤ (f (198 + 4 * i) 9 + t2_abs_v x).toInt) ∧ c2_pass_m f i x (198 + 4 * i) 7 = f (198 + 4 * i) 7 + (((x * (f 184 25)) / (1000 : Int32)) - f (198 + 4 * i) 7) / (8 : Int32) := by
  unfold c2_pass_m c2_putReckoned_m c2_putCharge_m
  generalize hM : fl_row f (198 + 4 * i) (upd (upd (upd (f (198 + 4 * i)) 6 (((f (198 + 4 * i) 6) + ((((x / (1000 : Int32)) * (x / (1000 : Int32))) * (f (198 + 4 * i) 5)) / (500 : Int32))) + (((f 184 6) - ((f (198 + 4 * i) 6) + ((((x / (1000 : Int32)) * (x / (1000 : Int32))) * (f (198 + 4 * i) 5)) / (500 : Int32)))) / (32 : Int32)))) 7 ((f (198 + 4 * i) 7) + ((((x * (f 184 25)) / (1000 : Int32)) - (f (198 + 4 * i) 7)) / (8 : Int32)))) 9 ((f (198 + 4 * i) 9) + (t2_abs_v x))) = M1
  have m9 : M1 (198 + 4 * i) 9 = f (198 + 4 * i) 9 + t2_abs_v x := by rw [← hM, fl_row_self, upd_self]
  have m7 : M1 (198 + 4 * i) 7 = f (198 + 4 * i) 7 + (((x * f 184 25) / (1000 : Int32)) - f (198 + 4 * i) 7) / (8 : Int32) := by rw [← hM, fl_row_self, upd_ne (by decide), upd_self]
  refine ⟨?_, ?_⟩
  · simp (disch := omega) only [fl_row_self, upd_ne]
    have := c2_wear_9 (f := M1) (i := i) (x := f 184 24) (by rw [m9]; exact h0)
    rw [m9] at this
    exact this
  · simp (disch := omega) only [fl_row_self, upd_ne]
    rw [c2_wear_o (by decide) (by decide) (by decide), m7]
theorem c2_I.cells (h : c2_I fc fr) (hth : ∀ C : Nat, C < (fr 280 2).toInt.toNat → (fr 280 (444 + 61 * C + 5)).toInt ≤ 99999 * ((fr 280 7).toInt - 1)) : c2_I (c2_passCells_m fc) (r_goCells_m fr) := by
  have hh := h
  obtain ⟨⟨⟨g5, g6, g7, g8⟩, ⟨g9, g10, g11, g12⟩, g13, g14, g15, g16⟩, rs, gx, cl, ok⟩ := h
  have cn := hh.cnt
  generalize hnn : (fr 280 2).toInt.toNat = n at *
  have hM : (fc 181 5).toInt.toNat = n := by omega
  have xb := ok.2.1.1
  have ab := t2_abs_b xb
  have tb := ok.2.1.2.2.2
  have s24 : fc 184 24 = fr 280 58 := rs 24 (by decide)
  have s25 : fc 184 25 = fr 280 59 := rs 25 (by decide)
  have b24 : t2_lo 24 ≤ (fr 280 58).toInt ∧ (fr 280 58).toInt ≤ t2_hi 24 := ok.s (k := 24) (by decide)
  have b25 : t2_lo 25 ≤ (fr 280 59).toInt ∧ (fr 280 59).toInt ≤ t2_hi 25 := ok.s (k := 25) (by decide)
  have q24 : t2_lo 24 = 0 ∧ t2_hi 24 = 9999 ∧ t2_lo 25 = 0 ∧ t2_hi 25 = 99 := by decide
  have c36 : (3600 : Int32).toInt = 3600 := by decide +kernel
  have oc : ∀ C : Nat, C < n → t2_OC (fr 280) C := fun C hC => (hh.cell (by omega)).2
  have rc : ∀ C : Nat, C < n → c2_Rc fc fr C := fun C hC => (hh.cell (by omega)).1.1
  have sum : ∀ C : Nat, C < n → (fc (198 + 4 * C) 9 + t2_abs_v (fr 280 5)).toInt = (fr 280 (444 + 61 * C + 5)).toInt + (t2_abs_v (fr 280 5)).toInt := fun C hC => by
    obtain ⟨-, -, -, t, -, -, -, -⟩ := oc C hC
    have r9 := (rc C hC).2.2.2.2.1
    rw [r9, at_add32 (by omega) (by omega)]
  have key := c2_cells_eq (n := n) hM hnn g9 rs rc (fun C hC => by
    obtain ⟨k1, -, k3, t, -, -, -, -⟩ := oc C hC
    have r0 := (rc C hC).1.1
    have r8 := (rc C hC).2.2.2.1
    refine ⟨by rw [r0]; exact k1.1, by rw [r0, r8]; exact k3, ?_⟩
    rw [sum C hC]
    omega) (by rw [s24, at_mul32] <;> rw [c36] <;> omega)
  have P : ∀ p : Nat, (p < 198 ∨ ∀ C : Nat, C < 16 → p ≠ 198 + 4 * C) → c2_passCells_m fc p = fc p := fun p hp => c2_cells_p hp (by omega)
  have W : ∀ w : Nat, w < 444 → r_goCells_m fr 280 w = fr 280 w := fun w hw => r_cells_lo hw
  have Wc : ∀ C w : Nat, w < 61 → w ≠ 0 ∧ w ≠ 1 ∧ w ≠ 3 ∧ w ≠ 4 ∧ w ≠ 5 ∧ w ≠ 9 → r_goCells_m fr 280 (444 + 61 * C + w) = fr 280 (444 + 61 * C + w) := fun C w hw h => r_cells_o hnn hw h
  have P1 : c2_passCells_m fc 181 = fc 181 := P _ (Or.inl (by decide))
  refine ⟨⟨⟨?_, ?_, ?_, ?_⟩, ⟨?_, ?_, ?_, ?_⟩, ?_, ?_, ?_, ?_⟩, rs.congr (P _ (Or.inl (by decide))) (fun k hk => W _ (by omega)), gx.congr ok.2.2.2.2.2.1.1.2 (fun p hp => P p (by rcases hp with q | q; exact Or.inl (by omega); exact Or.inr (fun C hC => by omega))) (fun w hw => W w (by omega)), fun C hC => ?_, ?_⟩
  · rw [P1, W 2 (by decide), g5]
  · rw [P1, W 7 (by decide), g6]
  · rw [P1, W 3 (by decide), g7]
  · rw [P1, W 4 (by decide), g8]
  · rw [P1, W 5 (by decide), g9]
  · rw [P1, W 14 (by decide), g10]
  · rw [P1, W 8 (by decide), g11]
  · rw [P1, W 9 (by decide), g12]
  · rw [P1, W 10 (by decide), g13]
  · rw [P1, W 11 (by decide), g14]
  · rw [P1, W 12 (by decide), g15]
  · rw [P1, W 13 (by decide), g16]
  · rw [W 2 (by decide)] at hC
    have hC' : C < n := by omega
    exact ⟨(key C hC').1, (cl C hC).2.congr (fun j j1 _ => c2_cells_o hM hC' (Or.inr (Or.inr j1))) (fun p hp => P p (Or.inr (fun D hD => by omega))) (fun w hw => Wc C w (by omega) (by omega))⟩
  · refine ok.upd (fun w hw => W w (by omega)) (fun k hk => by rw [W _ (by omega)]; exact ok.s hk) (by rw [W 5 (by decide)]; exact ok.2.1.1) (by rw [W 4 (by decide)]; exact ok.2.1.2.1) (by rw [W 7 (by decide)]; exact ok.2.1.2.2.2) (by rw [W 16 (by decide), W 20 (by decide), W 21 (by decide)]; exact ok.2.2.2.2.2.2.1) (fun C hC => ?_)
    have hC' : C < n := by omega
    obtain ⟨k1, k2, k3, t, po, k15, k16, ka⟩ := oc C hC'
    obtain ⟨rc', cap⟩ := key C hC'
    obtain ⟨⟨a0, -, -⟩, -, ⟨-, -, a7⟩, a8, a9, -⟩ := rc'
    rw [a0] at cap
    have Rw : ∀ w : Nat, w < 61 → r_goCells_m fr 280 (444 + 61 * C + w) = r_goOld_m (r_goCells_f50 fr C) (Int32.ofNat C) C 280 (444 + 61 * C + w) := by
      intro w hw
      unfold r_goCells_m
      rw [hnn, r_f50_in hw hC']
    obtain ⟨⟨v1, e1⟩, ⟨v4, e4⟩⟩ := r_old_held (f := r_goCells_f50 fr C) (c := Int32.ofNat C) (C := C)
    rw [← Rw 1 (by decide), ← Rw 0 (by decide)] at e1
    rw [← Rw 4 (by decide), ← Rw 0 (by decide)] at e4
    have ck : t2_ck (r_goCells_m fr) C := c2_ck_held cap rfl e1
    have p4 : r_P4 (r_goCells_m fr) C := r_P4_held cap rfl e4
    have FC : c2_passCells_f2 fc C (198 + 4 * C) = fc (198 + 4 * C) := c2_passCells_f2_fr (k := C) (p := 198 + 4 * C) (fun j hj => by omega)
    have F4 : c2_passCells_f2 fc C 184 = fc 184 := c2_passCells_f2_fr (k := C) (p := 184) (fun j hj => by omega)
    have Pj : ∀ j : Nat, j ≠ 6 → c2_passCells_m fc (198 + 4 * C) j = c2_pass_m (c2_passCells_f2 fc C) C (fr 280 5) (198 + 4 * C) j := by
      intro j hj
      unfold c2_passCells_m
      rw [c2_f35_o hj, hM, c2_f2_at hC', g9]
    obtain ⟨u9, u7⟩ := c2_pass_9 (f := c2_passCells_f2 fc C) (i := C) (x := fr 280 5) (by rw [FC, sum C hC']; omega)
    rw [← Pj 9 (by decide), FC, a9, sum C hC'] at u9
    rw [← Pj 7 (by decide), FC, F4, a7, s25, (rc C hC').2.2.1.2.2] at u7
    have th := hth C (by omega)
    refine ⟨ck, ?_, p4.2, ?_, ?_, ?_, ?_, ka.congr (fun w hw => Wc C w (by omega) (by omega))⟩
    · rw [Wc C 2 (by decide) (by decide)]
      exact k2
    · rw [W 7 (by decide)]
      omega
    · rw [u7]
      exact t2_polar_b po xb (by omega)
    · rw [Wc C 15 (by decide) (by decide)]
      exact k15
    · rw [Wc C 16 (by decide) (by decide)]
      exact k16
theorem c2_I.bal (h : c2_I fc fr) : c2_I (c2_balance_m fc) (r_goBalance_m fr) := by
  have hh := h
  obtain ⟨⟨⟨g5, g6, g7, g8⟩, ⟨g9, g10, g11, g12⟩, g13, g14, g15, g16⟩, rs, gx, cl, ok⟩ := h
  have cn := hh.cnt
  generalize hnn : (fr 280 2).toInt.toNat = n at *
  have hM : (fc 181 5).toInt.toNat = n := by omega
  have oc : ∀ C : Nat, C < n → t2_OC (fr 280) C := fun C hC => (hh.cell (by omega)).2
  have rc : ∀ C : Nat, C < n → c2_Rc fc fr C := fun C hC => (hh.cell (by omega)).1.1
  have rb : c2_RB fc fr n := ⟨rs, fun C hC => ⟨rc C hC, by rw [(rc C hC).1.1]; exact (oc C hC).1.1, (oc C hC).1⟩, g14, g15, g11, g13, g16⟩
  have b13 : t2_lo 13 ≤ (fr 280 47).toInt ∧ (fr 280 47).toInt ≤ t2_hi 13 := ok.s (k := 13) (by decide)
  have q13 : t2_lo 13 = 0 ∧ t2_hi 13 = 16 := by decide
  have hl : fc 190 3 = fr 280 6 := gx.2.1.1.1
  obtain ⟨rs', k, e14, e15, e11, e13, e16⟩ := c2_balance_eq hM hnn cn.2.1 rb hl g6 (by omega)
  obtain ⟨P, Q, Pc, Wc⟩ := c2_balance_o hM hnn cn.2.1 rb hl g6 (by omega)
  have W : ∀ w : Nat, (w < 444 ∧ w ≠ 8 ∧ w ≠ 10 ∧ w ≠ 11 ∧ w ≠ 12 ∧ w ≠ 13) → r_goBalance_m fr 280 w = fr 280 w := fun w hw => r_goBalance_w hw
  refine ⟨⟨⟨?_, ?_, ?_, ?_⟩, ⟨?_, ?_, e11, ?_⟩, e13, e14, e15, e16⟩, rs', gx.congr ok.2.2.2.2.2.1.1.2 (fun p hp => P p (by omega) (fun C hC => by omega)) (fun w hw => W w (by omega)), fun C hC => ?_, ?_⟩
  · rw [Q 5 (by decide) (by decide) (by decide) (by decide) (by decide), W 2 (by decide), g5]
  · rw [Q 6 (by decide) (by decide) (by decide) (by decide) (by decide), W 7 (by decide), g6]
  · rw [Q 7 (by decide) (by decide) (by decide) (by decide) (by decide), W 3 (by decide), g7]
  · rw [Q 8 (by decide) (by decide) (by decide) (by decide) (by decide), W 4 (by decide), g8]
  · rw [Q 9 (by decide) (by decide) (by decide) (by decide) (by decide), W 5 (by decide), g9]
  · rw [Q 10 (by decide) (by decide) (by decide) (by decide) (by decide), W 14 (by decide), g10]
  · rw [Q 12 (by decide) (by decide) (by decide) (by decide) (by decide), W 9 (by decide), g12]
  · rw [W 2 (by decide)] at hC
    have hC' : C < n := by omega
    exact ⟨(k C hC').1, (cl C hC).2.congr (fun j j1 _ => Pc C hC' j (by omega) (by omega) (by omega) (by omega)) (fun p hp => P p (by omega) (fun D hD => by omega)) (fun w hw => Wc C hC' w (by omega) (by omega) (by omega))⟩
  · refine ok.upd (fun w hw => W w (by omega)) (fun k hk => by rw [W _ (by omega)]; exact ok.s hk) (by rw [W 5 (by decide)]; exact ok.2.1.1) (by rw [W 4 (by decide)]; exact ok.2.1.2.1) (by rw [W 7 (by decide)]; exact ok.2.1.2.2.2) (by rw [W 16 (by decide), W 20 (by decide), W 21 (by decide)]; exact ok.2.2.2.2.2.2.1) (fun C hC => ?_)
    have hC' : C < n := by omega
    obtain ⟨k1, k2, k3, t, po, k15, k16, ka⟩ := oc C hC'
    have p4 : r_P4 (r_goBalance_m fr) C := r_balance_P4 ⟨k1.1, k3⟩
    refine ⟨(k C hC').2.2, ?_, p4.2, ?_, ?_, ?_, ?_, ka.congr (fun w hw => Wc C hC' w (by omega) (by omega) (by omega))⟩
    · rw [Wc C hC' 2 (by decide) (by decide) (by decide)]
      exact k2
    · rw [W 7 (by decide), Wc C hC' 5 (by decide) (by decide) (by decide)]
      exact t
    · rw [Wc C hC' 9 (by decide) (by decide) (by decide)]
      exact po
    · rw [Wc C hC' 15 (by decide) (by decide) (by decide)]
      exact k15
    · rw [Wc C hC' 16 (by decide) (by decide) (by decide)]
      exact k16
noncomputable def c2_s5 (f : t2_F) : t2_F := fl_row f 181 (upd (f 181) 11 (f 181 11 + (f 184 6 - f 181 11) / (16 : Int32)))
theorem c2_I.s5 (h : c2_I fc fr) : c2_I (c2_s5 fc) (r_t5 fr) := by
  have hh := h
  obtain ⟨⟨⟨g5, g6, g7, g8⟩, ⟨g9, g10, g11, g12⟩, g13, g14, g15, g16⟩, rs, gx, cl, ok⟩ := h
  have s6 : fc 184 6 = fr 280 40 := rs 6 (by decide)
  have P : ∀ p : Nat, p ≠ 181 → c2_s5 fc p = fc p := fun p hp => fl_row_ne hp
  have Q : ∀ j : Nat, j ≠ 11 → c2_s5 fc 181 j = fc 181 j := fun j hj => by unfold c2_s5; rw [fl_row_self, upd_ne hj]
  have W : ∀ w : Nat, w ≠ 8 → r_t5 fr 280 w = fr 280 w := fun w hw => by unfold r_t5; rw [fl_row_self, upd_ne hw]
  refine ⟨⟨⟨?_, ?_, ?_, ?_⟩, ⟨?_, ?_, ?_, ?_⟩, ?_, ?_, ?_, ?_⟩, rs.congr (P _ (by decide)) (fun k hk => W _ (by omega)), gx.congr ok.2.2.2.2.2.1.1.2 (fun p hp => P p (by omega)) (fun w hw => W w (by omega)), fun C hC => ?_, ?_⟩
  · rw [Q 5 (by decide), W 2 (by decide), g5]
  · rw [Q 6 (by decide), W 7 (by decide), g6]
  · rw [Q 7 (by decide), W 3 (by decide), g7]
  · rw [Q 8 (by decide), W 4 (by decide), g8]
  · rw [Q 9 (by decide), W 5 (by decide), g9]
  · rw [Q 10 (by decide), W 14 (by decide), g10]
  · unfold c2_s5 r_t5
    rw [fl_row_self, upd_self, fl_row_self, upd_self, s6, g11]
  · rw [Q 12 (by decide), W 9 (by decide), g12]
  · rw [Q 13 (by decide), W 10 (by decide), g13]
  · rw [Q 14 (by decide), W 11 (by decide), g14]
  · rw [Q 15 (by decide), W 12 (by decide), g15]
  · rw [Q 16 (by decide), W 13 (by decide), g16]
  · rw [W 2 (by decide)] at hC
    exact ⟨(cl C hC).1.congr (P _ (by omega)) (fun k hk => W _ (by omega)), (cl C hC).2.congr (fun j _ _ => by rw [P _ (by omega)]) (fun p hp => P p (by omega)) (fun w hw => W _ (by omega))⟩
  · refine ok.upd (fun w hw => W w (by omega)) (fun k hk => by rw [W _ (by omega)]; exact ok.s hk) (by rw [W 5 (by decide)]; exact ok.2.1.1) (by rw [W 4 (by decide)]; exact ok.2.1.2.1) (by rw [W 7 (by decide)]; exact ok.2.1.2.2.2) (by rw [W 16 (by decide), W 20 (by decide), W 21 (by decide)]; exact ok.2.2.2.2.2.2.1) (fun C hC => ?_)
    exact (hh.2.2.2.2.2.2.2.2.2.2.2 C hC).congr (fun w hw => W _ (by omega)) (by rw [W 7 (by decide)]; exact Int.le_refl _)
end C2STA

end

/-! 94.27.stb.lean.txt -/
section
/-! ===== block 0: a second, from (6) on ===== -/
section C0STB
variable {fc fr fc' fr' f g : t2_F} {C n : Nat} {c x : Int32}
/-- between (6) and the second's end: the scalars -/
def c0_GSM (fc fr : t2_F) : Prop := (fc 1 5 = fr 280 2 ∧ fc 1 6 = fr 280 7 ∧ fc 1 7 = fr 280 3 ∧ fc 1 8 = fr 280 4) ∧ (fc 1 9 = fr 280 5 ∧ fr 280 14 = fr 280 5 ∧ fc 1 11 = fr 280 8 ∧ fc 1 12 = fr 280 9) ∧ fc 1 13 = fr 280 10 ∧ fc 1 14 = fr 280 11 ∧ fc 1 15 = fr 280 12 ∧ fc 1 16 = fr 280 13
/-- and a cell -/
def c0_GCM (fc fr : t2_F) (C : Nat) : Prop := c0_Rm fc fr C ∧ (fr 280 (444 + 61 * C + 15) = 1 ∧ fc (18 + 4 * C) 11 = fr 280 (444 + 61 * C + 14)) ∧ c0_Rh fc fr C ∧ c0_TI fc fr C
def c0_IM (fc fr : t2_F) : Prop := c0_GSM fc fr ∧ c0_Rs fc fr ∧ c0_GX fc fr ∧ (∀ C : Nat, (C : Int) < (fr 280 2).toInt → c0_Rc fc fr C ∧ c0_GCM fc fr C) ∧ t2_OK (fr 280)
theorem c0_IM.cnt (h : c0_IM fc fr) : (fr 280 2).toInt = (((fr 280 2).toInt.toNat : Nat) : Int) ∧ (fr 280 2).toInt.toNat ≤ 16 ∧ (fc 1 5).toInt = (((fr 280 2).toInt.toNat : Nat) : Int) := by
  obtain ⟨⟨⟨h5, -⟩, -⟩, -, -, -, -, ⟨-, -, h2, -⟩, -⟩ := h
  rw [h5]
  omega
theorem c0_IM.cell (h : c0_IM fc fr) {C : Nat} (hC : C < (fr 280 2).toInt.toNat) : (c0_Rc fc fr C ∧ c0_GCM fc fr C) ∧ t2_OC (fr 280) C := by
  have q : (C : Int) < (fr 280 2).toInt := by have := h.cnt; omega
  exact ⟨h.2.2.2.1 C q, h.2.2.2.2.2.2.2.2.2.2.2 C q⟩
theorem c0_IM.far (h : c0_IM fc fr) {C : Nat} (hC : C < (fr 280 2).toInt.toNat) : t2_far (fr 280 5) (fr 280 (444 + 61 * C + 2)) := t2_far_ok h.2.2.2.2.2.1.1 (h.cell hC).2.2.1
/-- (6) -/
theorem c0_I.meas (h : c0_I fc fr) : c0_IM (c0_sMeasure_m fc) (r_goTaper_m (r_goMeasure_m fr)) := by
  have hh := h
  obtain ⟨⟨⟨g5, g6, g7, g8⟩, ⟨g9, g10, g11, g12⟩, g13, g14, g15, g16⟩, rs, gx, cl, ok⟩ := h
  have cn := hh.cnt
  have far := fun C hC => hh.far (C := C) hC
  generalize hnn : (fr 280 2).toInt.toNat = n at *
  have hM : (fc 1 5).toInt.toNat = n := by omega
  have oc : ∀ C : Nat, C < n → t2_OC (fr 280) C := fun C hC => (hh.cell (by omega)).2
  have rc : ∀ C : Nat, C < n → c0_Rc fc fr C ∧ c0_GC fc fr C := fun C hC => (hh.cell (by omega)).1
  have b19 : t2_lo 19 ≤ (fr 280 53).toInt ∧ (fr 280 53).toInt ≤ t2_hi 19 := ok.s (k := 19) (by decide)
  have b23 : t2_lo 23 ≤ (fr 280 57).toInt ∧ (fr 280 57).toInt ≤ t2_hi 23 := ok.s (k := 23) (by decide)
  have q19 : t2_lo 19 = 1 ∧ t2_lo 23 = 0 := by decide
  have r6 : ∀ C : Nat, C < n → c0_R6 fc fr C ∧ t2_ck fr C := fun C hC => by
    obtain ⟨k1, k2, k3, t, po, k15, k16, ka⟩ := oc C hC
    obtain ⟨a, b, d, -, -⟩ := rc C hC
    exact ⟨⟨a, by rw [a.1.1]; exact k1.1, far C hC, b, d.1, k15, d.2, k16.1, k16.2⟩, k1⟩
  obtain ⟨⟨e8, e12, e14, rs'⟩, k⟩ := c0_measure_eq cn.2.2 cn.1 g9 g10 g12 g8 g7 rs gx.1.1 ok.2.2.1 r6 (by omega) (by omega)
  obtain ⟨P, Q, Pc⟩ := c0_measure_o hM
  have Wt : ∀ w : Nat, w ≠ 54 → w ≠ 4 → r_goTaper_m (r_goMeasure_m fr) 280 w = r_mid fr 280 w := fun w h54 h4 => by rw [r_goTaper_w h54, r_meas_mid h4]
  have W : ∀ w : Nat, w < 444 → w ≠ 4 → w ≠ 9 → w ≠ 14 → w ≠ 54 → r_goTaper_m (r_goMeasure_m fr) 280 w = fr 280 w := fun w hw h4 h9 h14 h54 => by rw [Wt w h54 h4, r_mid_lo hw h9 h14]
  have Wc : ∀ C w : Nat, w < 61 → w ≠ 4 → w ≠ 11 → w ≠ 12 → w ≠ 13 → w ≠ 14 → w ≠ 15 → w ≠ 16 → r_goTaper_m (r_goMeasure_m fr) 280 (444 + 61 * C + w) = fr 280 (444 + 61 * C + w) := fun C w hw a4 a11 a12 a13 a14 a15 a16 => by
    rw [r_goTaper_w (by omega), r_goMeasure_w (by omega) (fun j => by omega) (fun j => by omega) (fun j => by omega) (fun j => by omega) (by omega) (by omega) (fun j => by omega) (fun j => by omega) (fun j => by omega)]
  refine ⟨⟨⟨?_, ?_, ?_, e8⟩, ⟨?_, ?_, ?_, e12⟩, ?_, ?_, ?_, ?_⟩, rs', gx.congr ok.2.2.2.2.2.1.1.2 (fun p hp => P p (by omega) (by omega) (fun C hC => by omega)) (fun w hw => W w (by omega) (by omega) (by omega) (by omega) (by omega)), fun C hC => ?_, ?_⟩
  · rw [Q 5 (by decide) (by decide), W 2 (by decide) (by decide) (by decide) (by decide) (by decide), g5]
  · rw [Q 6 (by decide) (by decide), W 7 (by decide) (by decide) (by decide) (by decide) (by decide), g6]
  · rw [Q 7 (by decide) (by decide), W 3 (by decide) (by decide) (by decide) (by decide) (by decide), g7]
  · rw [Q 9 (by decide) (by decide), W 5 (by decide) (by decide) (by decide) (by decide) (by decide), g9]
  · rw [e14, W 5 (by decide) (by decide) (by decide) (by decide) (by decide)]
  · rw [Q 11 (by decide) (by decide), W 8 (by decide) (by decide) (by decide) (by decide) (by decide), g11]
  · rw [Q 13 (by decide) (by decide), W 10 (by decide) (by decide) (by decide) (by decide) (by decide), g13]
  · rw [Q 14 (by decide) (by decide), W 11 (by decide) (by decide) (by decide) (by decide) (by decide), g14]
  · rw [Q 15 (by decide) (by decide), W 12 (by decide) (by decide) (by decide) (by decide) (by decide), g15]
  · rw [Q 16 (by decide) (by decide), W 13 (by decide) (by decide) (by decide) (by decide) (by decide), g16]
  · rw [W 2 (by decide) (by decide) (by decide) (by decide) (by decide)] at hC
    have hC' : C < n := by omega
    obtain ⟨k1, k2, k3, k4, k5, k6, k7⟩ := k C hC'
    obtain ⟨-, -, -, hr, ht⟩ := rc C hC'
    refine ⟨k1, k3, ⟨k5, k4⟩, ?_, ht.congr (P _ (by omega) (by omega) (fun D hD => by omega)) (P _ (by omega) (by omega) (fun D hD => by omega)) (P _ (by omega) (by omega) (fun D hD => by omega)) (fun w h1 h2 a11 a12 a13 a14 a15 a16 => Wc C w (by omega) (by omega) a11 a12 a13 a14 a15 a16)⟩
    unfold c0_Rh
    rw [Pc C hC' 10 (by decide) (by decide) (by decide) (by decide) (by decide) (by decide), Pc C hC' 12 (by decide) (by decide) (by decide) (by decide) (by decide) (by decide), Pc C hC' 13 (by decide) (by decide) (by decide) (by decide) (by decide) (by decide), Wc C 7 (by decide) (by decide) (by decide) (by decide) (by decide) (by decide) (by decide) (by decide), Wc C 8 (by decide) (by decide) (by decide) (by decide) (by decide) (by decide) (by decide) (by decide)]
    exact hr
  · have b5 := ok.2.1.1
    have b4 := ok.2.1.2.1
    have x4 : -1000000 ≤ (r_goTaper_m (r_goMeasure_m fr) 280 4).toInt ∧ (r_goTaper_m (r_goMeasure_m fr) 280 4).toInt ≤ 1000000 := by
      rw [r_goTaper_w (by decide)]
      rcases r_meas_4 (f := fr) with e | e
      · rw [e]
        exact b4
      · have m2 : r_mid fr 280 2 = fr 280 2 := r_mid_lo (by decide) (by decide) (by decide)
        have m5 : r_mid fr 280 5 = fr 280 5 := r_mid_lo (by decide) (by decide) (by decide)
        have ep : r_pack_v (r_mid fr) = r_pack_a4 (r_mid fr) n := by
          unfold r_pack_v
          rw [m2, hnn]
        have b := r_pack_b (f := r_mid fr) (n := n) cn.2.1 (by rw [m5]; exact b5) (fun C hC => by
          rw [r_mid_s (by omega), r_mid_s (by omega)]
          exact ⟨(oc C hC).2.1, (oc C hC).2.2.2.2.1⟩)
        rw [e, ep]
        omega
    refine ok.upd (fun w hw => W w (by omega) (by omega) (by omega) (by omega) (by omega)) (fun k hk => ?_) (by rw [W 5 (by decide) (by decide) (by decide) (by decide) (by decide)]; exact b5) x4 (by rw [W 7 (by decide) (by decide) (by decide) (by decide) (by decide)]; exact ok.2.1.2.2.2) (by rw [W 16 (by decide) (by decide) (by decide) (by decide) (by decide), W 20 (by decide) (by decide) (by decide) (by decide) (by decide), W 21 (by decide) (by decide) (by decide) (by decide) (by decide)]; exact ok.2.2.2.2.2.2.1) (fun C hC => ?_)
    · by_cases e : k = 20
      · subst e
        have q20 : t2_lo 20 = -99999 ∧ t2_hi 20 = 99999 := by decide
        have b20 : t2_lo 20 ≤ (fr 280 54).toInt ∧ (fr 280 54).toInt ≤ t2_hi 20 := ok.s (k := 20) (by decide)
        have m54 : r_goMeasure_m fr 280 54 = fr 280 54 := by rw [r_meas_mid (by decide), r_mid_lo (by decide) (by decide) (by decide)]
        have := r_taper_b (f := r_goMeasure_m fr) (by rw [m54]; omega)
        show t2_lo 20 ≤ (r_goTaper_m (r_goMeasure_m fr) 280 54).toInt ∧ (r_goTaper_m (r_goMeasure_m fr) 280 54).toInt ≤ t2_hi 20
        omega
      · rw [W _ (by omega) (by omega) (by omega) (by omega) (by omega)]
        exact ok.s hk
    · have hC' : C < n := by omega
      obtain ⟨k1, k2, k3, t, po, k15, k16, ka⟩ := oc C hC'
      obtain ⟨-, -, -, -, y15, -, yck⟩ := k C hC'
      obtain ⟨m4, m16⟩ := r_mid_cell (f := fr) (C := C) (by omega) k1.1
      have w0 : r_goTaper_m (r_goMeasure_m fr) 280 (444 + 61 * C + 0) = fr 280 (444 + 61 * C + 0) := Wc C 0 (by decide) (by decide) (by decide) (by decide) (by decide) (by decide) (by decide) (by decide)
      refine ⟨yck, ?_, ?_, ?_, ?_, Or.inr y15, ?_, ka.congr (fun w hw => Wc C w (by omega) (by omega) (by omega) (by omega) (by omega) (by omega) (by omega) (by omega))⟩
      · rw [Wc C 2 (by decide) (by decide) (by decide) (by decide) (by decide) (by decide) (by decide) (by decide)]
        exact k2
      · rw [w0, Wt _ (by omega) (by omega)]
        rcases m4 with e | e
        · rw [e]
          exact k3
        · exact e
      · rw [W 7 (by decide) (by decide) (by decide) (by decide) (by decide), Wc C 5 (by decide) (by decide) (by decide) (by decide) (by decide) (by decide) (by decide) (by decide)]
        exact t
      · rw [Wc C 9 (by decide) (by decide) (by decide) (by decide) (by decide) (by decide) (by decide) (by decide)]
        exact po
      · rw [Wt _ (by omega) (by omega)]
        rcases m16 with e | e
        · rw [e]
          exact k16
        · omega
/-- (7) -/
noncomputable def c0_s7 (so : Int32) (f : t2_F) : t2_F := c0_latch_m (c0_faultsOfPack_m (c0_faultsOfCells_m f)) ((so ||| c0_faultsOfCells_v f) ||| c0_faultsOfPack_v (c0_faultsOfCells_m f)) (f 1 6)
noncomputable def c0_s8 (f : t2_F) : t2_F := if (f 10 3).toInt = 0 then f else fl_row f 1 (upd (f 1) 7 (0 : Int32))
theorem c0_IM.flt (h : c0_IM fc fr) {so : Int32} {slow : Bool} (hso : so = if slow = true then (32 : Int32) else (0 : Int32)) (hsl : fr 277 4 = if slow = true then 1 else 0) : c0_IM (c0_s8 (c0_s7 so fc)) (r_goFaults_m fr) ∧ c0_latch_v (c0_faultsOfPack_m (c0_faultsOfCells_m fc)) ((so ||| c0_faultsOfCells_v fc) ||| c0_faultsOfPack_v (c0_faultsOfCells_m fc)) (fc 1 6) = r_goFaults_v fr := by
  have hh := h
  obtain ⟨⟨⟨g5, g6, g7, g8⟩, ⟨g9, g10, g11, g12⟩, g13, g14, g15, g16⟩, rs, gx, cl, ok⟩ := h
  have cn := hh.cnt
  have far := fun C hC => hh.far (C := C) hC
  generalize hnn : (fr 280 2).toInt.toNat = n at *
  have oc : ∀ C : Nat, C < n → t2_OC (fr 280) C := fun C hC => (hh.cell (by omega)).2
  have rc : ∀ C : Nat, C < n → c0_Rc fc fr C ∧ c0_GCM fc fr C := fun C hC => (hh.cell (by omega)).1
  have b17 : t2_lo 17 ≤ (fr 280 51).toInt ∧ (fr 280 51).toInt ≤ t2_hi 17 := ok.s (k := 17) (by decide)
  have q17 : t2_lo 17 = 1 := by decide
  have hb := ok.2.2.2.2.2.2.1.2.1
  obtain ⟨gt, ⟨w1, w2, w3, w4⟩, gtr, gm⟩ := id gx
  have r7 : c0_R7 fc fr n := ⟨⟨cn.2.2, cn.1, cn.2.1⟩, ⟨g6, g7, g9, g11⟩, rs, ⟨gt.1, ok.2.2.1⟩, fun C hC => ⟨by rw [g9]; exact c0_volts_eq (rc C hC).1 (far C hC), (rc C hC).1.2.2.1.2.1, (rc C hC).1.2.1.1⟩, w1, w2, w3, w4, by omega⟩
  obtain ⟨ev, eF⟩ := c0_faults_eq r7 hso hsl
  obtain ⟨f1, f2, f3, f4, f5⟩ := eF (c0_s7 so fc) rfl
  refine ⟨?_, ev⟩
  have P7 : ∀ p : Nat, (p < 10 ∨ 15 ≤ p) → c0_s7 so fc p = fc p := fun p hp => by
    unfold c0_s7
    rw [c0_latch_fr (by omega) (by omega) (by omega) (by omega), c0_faultsOfPack_fr (by omega), c0_faultsOfCells_fr (by omega)]
  have P8 : ∀ p : Nat, p ≠ 1 → c0_s8 (c0_s7 so fc) p = c0_s7 so fc p := fun p hp => by
    unfold c0_s8
    split
    · rfl
    · rw [fl_row_ne hp]
  have P : ∀ p : Nat, p ≠ 1 → (p < 10 ∨ 15 ≤ p) → c0_s8 (c0_s7 so fc) p = fc p := fun p h1 hp => by rw [P8 p h1, P7 p hp]
  have Q : ∀ j : Nat, j ≠ 7 → c0_s8 (c0_s7 so fc) 1 j = fc 1 j := fun j hj => by
    unfold c0_s8
    split
    · rw [P7 _ (by decide)]
    · rw [fl_row_self, upd_ne hj, P7 _ (by decide)]
  have q7 : c0_s8 (c0_s7 so fc) 1 7 = r_goFaults_m fr 280 3 := by
    rw [f5]
    unfold c0_s8
    split
    · rw [P7 _ (by decide)]
    · rw [fl_row_self, upd_self]
  have W : ∀ w : Nat, (w ≠ 6 ∧ w ≠ 20 ∧ (w < 23 ∨ 34 ≤ w) ∧ (w < 167 ∨ 217 ≤ w) ∧ (w < 311 ∨ 315 ≤ w) ∧ w ≠ 3 ∧ w ≠ 15 ∧ w ≠ 16 ∧ w ≠ 22) → r_goFaults_m fr 280 w = fr 280 w := fun w hw => r_goFaults_w hb hw
  have W2 : ∀ w : Nat, (w = 21 ∨ (215 ≤ w ∧ w < 311)) → r_goFaults_m fr 280 w = fr 280 w := fun w hw => by
    by_cases e : w = 215 ∨ w = 216
    · exact r_faults_215 hb e
    · exact W w (by omega)
  have gw : c0_GW (c0_s7 so fc) (r_goFaults_m fr) := ⟨f1, f2, f3, f4⟩
  refine ⟨⟨⟨?_, ?_, q7, ?_⟩, ⟨?_, ?_, ?_, ?_⟩, ?_, ?_, ?_, ?_⟩, rs.congr (P _ (by decide) (by decide)) (fun k hk => W _ (by omega)), ⟨gt.congr ok.2.2.2.2.2.1.1.2 (P _ (by decide) (by decide)) (P _ (by decide) (by decide)) (P _ (by decide) (by decide)) (P _ (by decide) (by decide)) (P _ (by decide) (by decide)) (P _ (by decide) (by decide)) (fun w hw => W w (by omega)), gw.congr (P8 _ (by decide)) (P8 _ (by decide)) (P8 _ (by decide)) (P8 _ (by decide)) (P8 _ (by decide)) (fun w _ => rfl), gtr.congr (P _ (by decide) (by decide)) (P _ (by decide) (by decide)) W2, gm.congr (fun p hp => P p (by omega) (by omega)) (fun w hw => W w (by omega))⟩, fun C hC => ?_, ?_⟩
  · rw [Q 5 (by decide), W 2 (by decide), g5]
  · rw [Q 6 (by decide), W 7 (by decide), g6]
  · rw [Q 8 (by decide), W 4 (by decide), g8]
  · rw [Q 9 (by decide), W 5 (by decide), g9]
  · rw [W 14 (by decide), W 5 (by decide), g10]
  · rw [Q 11 (by decide), W 8 (by decide), g11]
  · rw [Q 12 (by decide), W 9 (by decide), g12]
  · rw [Q 13 (by decide), W 10 (by decide), g13]
  · rw [Q 14 (by decide), W 11 (by decide), g14]
  · rw [Q 15 (by decide), W 12 (by decide), g15]
  · rw [Q 16 (by decide), W 13 (by decide), g16]
  · rw [W 2 (by decide)] at hC
    obtain ⟨ra, ⟨m1, m2, m3, m4⟩, ⟨d15, d14⟩, rh, ti⟩ := cl C hC
    have row : c0_s8 (c0_s7 so fc) (18 + 4 * C) = fc (18 + 4 * C) := P _ (by omega) (by omega)
    have Wc : ∀ w : Nat, r_goFaults_m fr 280 (444 + 61 * C + w) = fr 280 (444 + 61 * C + w) := fun w => W _ (by omega)
    refine ⟨ra.congr row (fun k _ => Wc k), ⟨?_, ?_, ?_, ?_⟩, ⟨?_, ?_⟩, ?_, ti.congr (P _ (by omega) (by omega)) (P _ (by omega) (by omega)) (P _ (by omega) (by omega)) (fun w _ _ _ _ _ _ _ _ => Wc w)⟩
    · rw [row, Wc, m1]
    · rw [row, Wc, m2]
    · rw [row, Wc, m3]
    · rw [row, Wc, m4]
    · rw [Wc, d15]
    · rw [row, Wc, d14]
    · unfold c0_Rh
      rw [row, Wc, Wc]
      exact rh
  · refine ok.upd (fun w hw => W w (by omega)) (fun k hk => by rw [W _ (by omega)]; exact ok.s hk) (by rw [W 5 (by decide)]; exact ok.2.1.1) (by rw [W 4 (by decide)]; exact ok.2.1.2.1) (by rw [W 7 (by decide)]; exact ok.2.1.2.2.2) ⟨f1.2.2.2.2, f4.2.2.2.1, by rw [W 21 (by decide)]; exact ok.2.2.2.2.2.2.1.2.2⟩ (fun C hC => ?_)
    exact (hh.2.2.2.2.2.2.2.2.2.2.2 C hC).congr (fun w hw => W _ (by omega)) (by rw [W 7 (by decide)]; exact Int.le_refl _)
/-- behind what is kept: all but the current ahead -/
def c0_IK (fc fr : t2_F) : Prop := c0_GSM fc fr ∧ c0_Rs fc fr ∧ c0_GX fc fr ∧ (∀ C : Nat, (C : Int) < (fr 280 2).toInt → c0_Rc fc fr C ∧ c0_GC fc fr C) ∧ t2_OK (fr 280)
theorem c0_IM.kept (h : c0_IM fc fr) : c0_IK (c0_sKeep_m fc) (r_goKept_m fr) := by
  have hh := h
  obtain ⟨⟨⟨g5, g6, g7, g8⟩, ⟨g9, g10, g11, g12⟩, g13, g14, g15, g16⟩, rs, gx, cl, ok⟩ := h
  have cn := hh.cnt
  have far := fun C hC => hh.far (C := C) hC
  generalize hnn : (fr 280 2).toInt.toNat = n at *
  have hM : (fc 1 5).toInt.toNat = n := by omega
  have oc : ∀ C : Nat, C < n → t2_OC (fr 280) C := fun C hC => (hh.cell (by omega)).2
  have rc : ∀ C : Nat, C < n → c0_Rc fc fr C ∧ c0_GCM fc fr C := fun C hC => (hh.cell (by omega)).1
  obtain ⟨gt, gw, gtr, gm⟩ := id gx
  have hpk : c0_packAt_v fc (fc 1 9) = r_pack_v fr := by
    have e := c0_pack_eq (fc := fc) (fr := fr) (n := n) (fun C hC => ⟨(rc C hC).1, far C hC⟩)
    unfold c0_packAt_v r_pack_v
    rw [hM, hnn, g9, e]
  obtain ⟨tr', k⟩ := c0_kept_eq cn.2.2 cn.1 cn.2.1 g9 gtr hpk (fun C hC => by
    obtain ⟨k1, k2, k3, t, po, k15, k16, ka⟩ := oc C hC
    obtain ⟨ra, -, -, rh, ti⟩ := rc C hC
    have vb := r_volts_b (f := fr) (c := Int32.ofNat C) (C := C) ok.2.1.1 k2 po
    exact ⟨ti, c0_volts_eq ra (far C hC), ra.2.1.1, k1, by omega, rh⟩)
  have P : ∀ p : Nat, (p < 16 ∨ 82 ≤ p) → c0_sKeep_m fc p = fc p := fun p hp => by
    unfold c0_sKeep_m
    rw [hM, c0_sKeep_f25_fr (k := n) (fun j hj => by omega) (fun j hj => by omega) (fun j hj => by omega) (fun j hj => by omega), c0_tadd_fr (by omega) (by omega)]
  have W : ∀ w : Nat, w < 444 → w ≠ 21 → (w < 215 ∨ 311 ≤ w) → r_goKept_m fr 280 w = fr 280 w := fun w hw a b => by
    unfold r_goKept_m
    exact r_goKept_f117_w (by omega) (fun C hC => (oc C (by omega)).1) ok.2.2.2.2.2.2.1.2.2 (fun C hC => ⟨(oc C (by omega)).2.2.2.2.2.2.2.1, (oc C (by omega)).2.2.2.2.2.2.2.2.1⟩) (Nat.le_refl _) (Or.inl hw) ⟨a, b⟩
  have P1 : c0_sKeep_m fc 1 = fc 1 := P _ (by decide)
  refine ⟨⟨⟨?_, ?_, ?_, ?_⟩, ⟨?_, ?_, ?_, ?_⟩, ?_, ?_, ?_, ?_⟩, rs.congr (P _ (by decide)) (fun k hk => W _ (by omega) (by omega) (by omega)), ⟨gt.congr ok.2.2.2.2.2.1.1.2 (P _ (by decide)) (P _ (by decide)) (P _ (by decide)) (P _ (by decide)) (P _ (by decide)) (P _ (by decide)) (fun w hw => W w (by omega) (by omega) (by omega)), gw.congr (P _ (by decide)) (P _ (by decide)) (P _ (by decide)) (P _ (by decide)) (P _ (by decide)) (fun w hw => W w (by omega) (by omega) (by omega)), tr', gm.congr (fun p hp => P p (by omega)) (fun w hw => W w (by omega) (by omega) (by omega))⟩, fun C hC => ?_, ?_⟩
  · rw [P1, W 2 (by decide) (by decide) (by decide), g5]
  · rw [P1, W 7 (by decide) (by decide) (by decide), g6]
  · rw [P1, W 3 (by decide) (by decide) (by decide), g7]
  · rw [P1, W 4 (by decide) (by decide) (by decide), g8]
  · rw [P1, W 5 (by decide) (by decide) (by decide), g9]
  · rw [W 14 (by decide) (by decide) (by decide), W 5 (by decide) (by decide) (by decide), g10]
  · rw [P1, W 8 (by decide) (by decide) (by decide), g11]
  · rw [P1, W 9 (by decide) (by decide) (by decide), g12]
  · rw [P1, W 10 (by decide) (by decide) (by decide), g13]
  · rw [P1, W 11 (by decide) (by decide) (by decide), g14]
  · rw [P1, W 12 (by decide) (by decide) (by decide), g15]
  · rw [P1, W 13 (by decide) (by decide) (by decide), g16]
  · rw [W 2 (by decide) (by decide) (by decide)] at hC
    have hC' : C < n := by omega
    obtain ⟨ra, ⟨m1, m2, m3, m4⟩, ⟨d15, d14⟩, -, -⟩ := rc C hC'
    obtain ⟨ti, ⟨t10, t12, t13⟩, co, wo⟩ := k C hC'
    refine ⟨ra.c18 (fun j hj => co j (by omega) (by omega) (by omega)) (by rw [co 18 (by decide) (by decide) (by decide), wo 60 (by decide) (by decide) (by decide)]; exact ra.2.2.2.2.2) (fun w hw => wo w (by omega) (by omega) (by omega)), ⟨?_, ?_, ?_, ?_⟩, ⟨?_, fun _ => ?_⟩, Or.inr ⟨t10, t12, t13⟩, ti⟩
    · rw [co 14 (by decide) (by decide) (by decide), wo 11 (by decide) (by decide) (by decide), m1]
    · rw [co 15 (by decide) (by decide) (by decide), wo 12 (by decide) (by decide) (by decide), m2]
    · rw [co 16 (by decide) (by decide) (by decide), wo 13 (by decide) (by decide) (by decide), m3]
    · rw [co 17 (by decide) (by decide) (by decide), wo 16 (by decide) (by decide) (by decide), m4]
    · rw [t10, wo 15 (by decide) (by decide) (by decide), d15]
    · rw [co 11 (by decide) (by decide) (by decide), wo 14 (by decide) (by decide) (by decide), d14]
  · refine ok.upd (fun w hw => W w (by omega) (by omega) (by omega)) (fun k hk => by rw [W _ (by omega) (by omega) (by omega)]; exact ok.s hk) (by rw [W 5 (by decide) (by decide) (by decide)]; exact ok.2.1.1) (by rw [W 4 (by decide) (by decide) (by decide)]; exact ok.2.1.2.1) (by rw [W 7 (by decide) (by decide) (by decide)]; exact ok.2.1.2.2.2) ⟨by rw [W 16 (by decide) (by decide) (by decide)]; exact ok.2.2.2.2.2.2.1.1, by rw [W 20 (by decide) (by decide) (by decide)]; exact ok.2.2.2.2.2.2.1.2.1, tr'.2.2.2.1⟩ (fun C hC => ?_)
    have hC' : C < n := by omega
    obtain ⟨k1, k2, k3, t, po, k15, k16, ka⟩ := oc C hC'
    obtain ⟨ti, -, -, wo⟩ := k C hC'
    refine ⟨?_, ?_, ?_, ?_, ?_, ?_, ?_, ti.2.2.2.congr (fun w _ => rfl)⟩
    · rw [wo 0 (by decide) (by decide) (by decide), wo 1 (by decide) (by decide) (by decide)]
      exact k1
    · rw [wo 2 (by decide) (by decide) (by decide)]
      exact k2
    · rw [wo 0 (by decide) (by decide) (by decide), wo 4 (by decide) (by decide) (by decide)]
      exact k3
    · rw [wo 5 (by decide) (by decide) (by decide), W 7 (by decide) (by decide) (by decide)]
      exact t
    · rw [wo 9 (by decide) (by decide) (by decide)]
      exact po
    · rw [wo 15 (by decide) (by decide) (by decide)]
      exact k15
    · rw [wo 16 (by decide) (by decide) (by decide)]
      exact k16
/-- what the two tell -/
theorem c0_IK.tell (h : c0_IK fc fr) : c0_tell_v fc x = r_is_v fr x := by
  obtain ⟨⟨⟨g5, g6, g7, g8⟩, ⟨g9, g10, g11, g12⟩, g13, g14, g15, g16⟩, rs, gx, cl, ok⟩ := h
  have n2 := ok.2.1.2.2.1
  have b5 := ok.2.1.1
  have hpk : c0_packAt_v fc (fc 1 9) = r_pack_v fr := by
    have e := c0_pack_eq (fc := fc) (fr := fr) (n := (fr 280 2).toInt.toNat) (fun C hC => ⟨(cl C (by omega)).1, t2_far_ok b5 (ok.2.2.2.2.2.2.2 C (by omega)).2.1⟩)
    unfold c0_packAt_v r_pack_v
    rw [g5, g9, e]
  have ha := c0_actual_eq g7 gx.1.1 ok.2.2.1
  unfold c0_tell_v r_is_v
  rw [g5, g7, g8, hpk, g9, gx.2.1.1.1, g6, g11, g12, g13, g14, g15, g16, ha, gx.1.2.2.2.2.1, gx.1.2.1.1]
/-- (8) -/
theorem c0_IK.rules (h : c0_IK fc fr) : c0_IK (c0_obeyRules_m fc) (r_goRules_m fr) := by
  have tl := fun x => h.tell (x := x)
  have hh := h
  obtain ⟨⟨⟨g5, g6, g7, g8⟩, ⟨g9, g10, g11, g12⟩, g13, g14, g15, g16⟩, rs, gx, cl, ok⟩ := h
  have rs' := c0_rules_eq rs gx.1.2.2.1 ok.2.2.2.2.1.2.1 tl
  have P : ∀ p : Nat, p ≠ 4 → c0_obeyRules_m fc p = fc p := fun p hp => c0_obeyRules_fr hp
  have W : ∀ w : Nat, (w < 34 ∨ 64 ≤ w) → r_goRules_m fr 280 w = fr 280 w := fun w hw => r_goRules_w ok.2.2.2.2.1.1 ok.2.2.2.2.1.2.1 hw
  have P1 : c0_obeyRules_m fc 1 = fc 1 := P _ (by decide)
  refine ⟨⟨⟨?_, ?_, ?_, ?_⟩, ⟨?_, ?_, ?_, ?_⟩, ?_, ?_, ?_, ?_⟩, rs', gx.congr ok.2.2.2.2.2.1.1.2 (fun p hp => P p (by omega)) (fun w hw => W w (by omega)), fun C hC => ?_, ?_⟩
  · rw [P1, W 2 (by decide), g5]
  · rw [P1, W 7 (by decide), g6]
  · rw [P1, W 3 (by decide), g7]
  · rw [P1, W 4 (by decide), g8]
  · rw [P1, W 5 (by decide), g9]
  · rw [W 14 (by decide), W 5 (by decide), g10]
  · rw [P1, W 8 (by decide), g11]
  · rw [P1, W 9 (by decide), g12]
  · rw [P1, W 10 (by decide), g13]
  · rw [P1, W 11 (by decide), g14]
  · rw [P1, W 12 (by decide), g15]
  · rw [P1, W 13 (by decide), g16]
  · rw [W 2 (by decide)] at hC
    exact ⟨(cl C hC).1.congr (P _ (by omega)) (fun k hk => W _ (by omega)), (cl C hC).2.congr (fun j _ _ => by rw [P _ (by omega)]) (fun p hp => P p (by omega)) (fun w hw => W _ (by omega))⟩
  · refine ok.upd (fun w hw => W w (by omega)) (r_rules_b ok) (by rw [W 5 (by decide)]; exact ok.2.1.1) (by rw [W 4 (by decide)]; exact ok.2.1.2.1) (by rw [W 7 (by decide)]; exact ok.2.1.2.2.2) (by rw [W 16 (by decide), W 20 (by decide), W 21 (by decide)]; exact ok.2.2.2.2.2.2.1) (fun C hC => ?_)
    exact (ok.2.2.2.2.2.2.2 C hC).congr (fun w hw => W _ (by omega)) (by rw [W 7 (by decide)]; exact Int.le_refl _)
/-- the second's end -/
noncomputable def c0_s9 (f : t2_F) : t2_F := fl_row f 1 (upd (f 1) 10 (f 1 9))
theorem c0_IK.s9 (h : c0_IK fc fr) : c0_I (c0_s9 fc) fr := by
  obtain ⟨⟨⟨g5, g6, g7, g8⟩, ⟨g9, g10, g11, g12⟩, g13, g14, g15, g16⟩, rs, gx, cl, ok⟩ := h
  have P : ∀ p : Nat, p ≠ 1 → c0_s9 fc p = fc p := fun p hp => fl_row_ne hp
  have Q : ∀ j : Nat, j ≠ 10 → c0_s9 fc 1 j = fc 1 j := fun j hj => by unfold c0_s9; rw [fl_row_self, upd_ne hj]
  refine ⟨⟨⟨?_, ?_, ?_, ?_⟩, ⟨?_, ?_, ?_, ?_⟩, ?_, ?_, ?_, ?_⟩, rs.congr (P _ (by decide)) (fun k hk => rfl), gx.congr ok.2.2.2.2.2.1.1.2 (fun p hp => P p (by omega)) (fun w hw => rfl), fun C hC => ⟨(cl C hC).1.congr (P _ (by omega)) (fun k hk => rfl), (cl C hC).2.congr (fun j _ _ => by rw [P _ (by omega)]) (fun p hp => P p (by omega)) (fun w hw => rfl)⟩, ok⟩
  · rw [Q 5 (by decide), g5]
  · rw [Q 6 (by decide), g6]
  · rw [Q 7 (by decide), g7]
  · rw [Q 8 (by decide), g8]
  · rw [Q 9 (by decide), g9]
  · unfold c0_s9
    rw [fl_row_self, upd_self, g10, g9]
  · rw [Q 11 (by decide), g11]
  · rw [Q 12 (by decide), g12]
  · rw [Q 13 (by decide), g13]
  · rw [Q 14 (by decide), g14]
  · rw [Q 15 (by decide), g15]
  · rw [Q 16 (by decide), g16]
/-- a second of the class -/
noncomputable def c0_so (f : t2_F) : Int32 := if (c0_moveBus_v (c0_s1 f)).toInt = 0 then (0 : Int32) else (32 : Int32)
noncomputable def c0_u6 (f : t2_F) : t2_F := c0_sMeasure_m (c0_s5 (c0_balance_m (c0_passCells_m (c0_letCurrent_m (c0_moveBus_m (c0_s1 f))))))
noncomputable def c0_sec_m (f : t2_F) : t2_F := c0_s9 (c0_obeyRules_m (c0_sKeep_m (c0_s8 (c0_s7 (c0_so f) (c0_u6 f)))))
noncomputable def c0_sec_v (f : t2_F) : Int32 := c0_latch_v (c0_faultsOfPack_m (c0_faultsOfCells_m (c0_u6 f))) ((c0_so f ||| c0_faultsOfCells_v (c0_u6 f)) ||| c0_faultsOfPack_v (c0_faultsOfCells_m (c0_u6 f))) (c0_u6 f 1 6)
/-- a second of the reference -/
noncomputable def r_v6 (f : t2_F) : t2_F := r_goTaper_m (r_goMeasure_m (r_t5 (r_goBalance_m (r_goCells_m (r_goCurrent_m (r_goBus_m (r_t1 f)))))))
noncomputable def r_sec_m (f : t2_F) : t2_F := r_goRules_m (r_goKept_m (r_goFaults_m (r_v6 f)))
noncomputable def r_sec_v (f : t2_F) : Int32 := r_goFaults_v (r_v6 f)
/-- A SECOND KEEPS THE RELATION -/
theorem c0_I.sec (h : c0_I fc fr) (ht : (fr 280 7).toInt < 9999) : c0_I (c0_sec_m fc) (r_sec_m fr) ∧ c0_sec_v fc = r_sec_v fr := by
  have c0 : (0 : Int32).toInt = 0 := rfl
  have c1 : (1 : Int32).toInt = 1 := by decide +kernel
  obtain ⟨i1, t1⟩ := h.s1 ht
  obtain ⟨i2, sv, s01, -⟩ := i1.bus
  obtain ⟨i3, w3⟩ := i2.cur
  have o1 : ∀ w : Nat, w ≠ 7 → r_t1 fr 280 w = fr 280 w := fun w hw => by unfold r_t1; rw [fl_row_self, upd_ne hw]
  have o2 : ∀ w : Nat, w ≠ 3 → w ≠ 4 → r_goBus_m (r_t1 fr) 280 w = r_t1 fr 280 w := fun w h3 h4 => by rw [r_goBus_w2, if_neg h4, if_neg h3]
  have i4 := i3.cells (fun C hC => by
    have e7 : r_goCurrent_m (r_goBus_m (r_t1 fr)) 280 7 = r_t1 fr 280 7 := by rw [w3 7 (by decide) (fun D _ => by omega), o2 7 (by decide) (by decide)]
    have e5 : r_goCurrent_m (r_goBus_m (r_t1 fr)) 280 (444 + 61 * C + 5) = fr 280 (444 + 61 * C + 5) := by rw [w3 _ (by omega) (fun D _ => by omega), o2 _ (by omega) (by omega), o1 _ (by omega)]
    have e2 : r_goCurrent_m (r_goBus_m (r_t1 fr)) 280 2 = fr 280 2 := by rw [w3 2 (by decide) (fun D _ => by omega), o2 2 (by decide) (by decide), o1 2 (by decide)]
    rw [e2] at hC
    have t := (h.cell hC).2.2.2.2.1.2
    rw [e5, e7, t1]
    omega)
  have i6 := i4.bal.s5.meas
  have f277 : r_v6 fr 277 4 = r_goBus_m (r_t1 fr) 277 4 := by
    unfold r_v6
    rw [r_goTaper_fr (by decide), r_goMeasure_fr (by decide)]
    unfold r_t5
    rw [fl_row_ne (by decide), r_balance_277 (by decide), r_goCells_fr (by decide), r_goCurrent_fr (by decide)]
  have hsl : r_v6 fr 277 4 = if (decide (r_goBus_m (r_t1 fr) 277 4 = 1)) = true then 1 else 0 := by
    rw [f277]
    rcases s01 with e | e
    · rw [e]
      decide
    · rw [e]
      decide
  have hso : c0_so fc = if (decide (r_goBus_m (r_t1 fr) 277 4 = 1)) = true then (32 : Int32) else (0 : Int32) := by
    unfold c0_so
    rw [sv]
    rcases s01 with e | e
    · rw [e]
      decide
    · rw [e]
      decide
  obtain ⟨i8, v8⟩ := i6.flt hso hsl
  exact ⟨i8.kept.rules.s9, v8⟩
end C0STB

/-! ===== block 2: a second, from (6) on ===== -/
section C2STB
variable {fc fr fc' fr' f g : t2_F} {C n : Nat} {c x : Int32}
def c2_GSM (fc fr : t2_F) : Prop := (fc 181 5 = fr 280 2 ∧ fc 181 6 = fr 280 7 ∧ fc 181 7 = fr 280 3 ∧ fc 181 8 = fr 280 4) ∧ (fc 181 9 = fr 280 5 ∧ fr 280 14 = fr 280 5 ∧ fc 181 11 = fr 280 8 ∧ fc 181 12 = fr 280 9) ∧ fc 181 13 = fr 280 10 ∧ fc 181 14 = fr 280 11 ∧ fc 181 15 = fr 280 12 ∧ fc 181 16 = fr 280 13
def c2_GCM (fc fr : t2_F) (C : Nat) : Prop := c2_Rm fc fr C ∧ (fr 280 (444 + 61 * C + 15) = 1 ∧ fc (198 + 4 * C) 11 = fr 280 (444 + 61 * C + 14)) ∧ c2_Rh fc fr C ∧ c2_TI fc fr C
def c2_IM (fc fr : t2_F) : Prop := c2_GSM fc fr ∧ c2_Rs fc fr ∧ c2_GX fc fr ∧ (∀ C : Nat, (C : Int) < (fr 280 2).toInt → c2_Rc fc fr C ∧ c2_GCM fc fr C) ∧ t2_OK (fr 280)
theorem c2_IM.cnt (h : c2_IM fc fr) : (fr 280 2).toInt = (((fr 280 2).toInt.toNat : Nat) : Int) ∧ (fr 280 2).toInt.toNat ≤ 16 ∧ (fc 181 5).toInt = (((fr 280 2).toInt.toNat : Nat) : Int) := by
  obtain ⟨⟨⟨h5, -⟩, -⟩, -, -, -, -, ⟨-, -, h2, -⟩, -⟩ := h
  rw [h5]
  omega
theorem c2_IM.cell (h : c2_IM fc fr) {C : Nat} (hC : C < (fr 280 2).toInt.toNat) : (c2_Rc fc fr C ∧ c2_GCM fc fr C) ∧ t2_OC (fr 280) C := by
  have q : (C : Int) < (fr 280 2).toInt := by have := h.cnt; omega
  exact ⟨h.2.2.2.1 C q, h.2.2.2.2.2.2.2.2.2.2.2 C q⟩
theorem c2_IM.far (h : c2_IM fc fr) {C : Nat} (hC : C < (fr 280 2).toInt.toNat) : t2_far (fr 280 5) (fr 280 (444 + 61 * C + 2)) := t2_far_ok h.2.2.2.2.2.1.1 (h.cell hC).2.2.1
theorem c2_I.meas (h : c2_I fc fr) : c2_IM (c2_sMeasure_m fc) (r_goTaper_m (r_goMeasure_m fr)) := by
  have hh := h
  obtain ⟨⟨⟨g5, g6, g7, g8⟩, ⟨g9, g10, g11, g12⟩, g13, g14, g15, g16⟩, rs, gx, cl, ok⟩ := h
  have cn := hh.cnt
  have far := fun C hC => hh.far (C := C) hC
  generalize hnn : (fr 280 2).toInt.toNat = n at *
  have hM : (fc 181 5).toInt.toNat = n := by omega
  have oc : ∀ C : Nat, C < n → t2_OC (fr 280) C := fun C hC => (hh.cell (by omega)).2
  have rc : ∀ C : Nat, C < n → c2_Rc fc fr C ∧ c2_GC fc fr C := fun C hC => (hh.cell (by omega)).1
  have b19 : t2_lo 19 ≤ (fr 280 53).toInt ∧ (fr 280 53).toInt ≤ t2_hi 19 := ok.s (k := 19) (by decide)
  have b23 : t2_lo 23 ≤ (fr 280 57).toInt ∧ (fr 280 57).toInt ≤ t2_hi 23 := ok.s (k := 23) (by decide)
  have q19 : t2_lo 19 = 1 ∧ t2_lo 23 = 0 := by decide
  have r6 : ∀ C : Nat, C < n → c2_R6 fc fr C ∧ t2_ck fr C := fun C hC => by
    obtain ⟨k1, k2, k3, t, po, k15, k16, ka⟩ := oc C hC
    obtain ⟨a, b, d, -, -⟩ := rc C hC
    exact ⟨⟨a, by rw [a.1.1]; exact k1.1, far C hC, b, d.1, k15, d.2, k16.1, k16.2⟩, k1⟩
  obtain ⟨⟨e8, e12, e14, rs'⟩, k⟩ := c2_measure_eq cn.2.2 cn.1 g9 g10 g12 g8 g7 rs gx.1.1 ok.2.2.1 r6 (by omega) (by omega)
  obtain ⟨P, Q, Pc⟩ := c2_measure_o hM
  have Wt : ∀ w : Nat, w ≠ 54 → w ≠ 4 → r_goTaper_m (r_goMeasure_m fr) 280 w = r_mid fr 280 w := fun w h54 h4 => by rw [r_goTaper_w h54, r_meas_mid h4]
  have W : ∀ w : Nat, w < 444 → w ≠ 4 → w ≠ 9 → w ≠ 14 → w ≠ 54 → r_goTaper_m (r_goMeasure_m fr) 280 w = fr 280 w := fun w hw h4 h9 h14 h54 => by rw [Wt w h54 h4, r_mid_lo hw h9 h14]
  have Wc : ∀ C w : Nat, w < 61 → w ≠ 4 → w ≠ 11 → w ≠ 12 → w ≠ 13 → w ≠ 14 → w ≠ 15 → w ≠ 16 → r_goTaper_m (r_goMeasure_m fr) 280 (444 + 61 * C + w) = fr 280 (444 + 61 * C + w) := fun C w hw a4 a11 a12 a13 a14 a15 a16 => by
    rw [r_goTaper_w (by omega), r_goMeasure_w (by omega) (fun j => by omega) (fun j => by omega) (fun j => by omega) (fun j => by omega) (by omega) (by omega) (fun j => by omega) (fun j => by omega) (fun j => by omega)]
  refine ⟨⟨⟨?_, ?_, ?_, e8⟩, ⟨?_, ?_, ?_, e12⟩, ?_, ?_, ?_, ?_⟩, rs', gx.congr ok.2.2.2.2.2.1.1.2 (fun p hp => P p (by omega) (by omega) (fun C hC => by omega)) (fun w hw => W w (by omega) (by omega) (by omega) (by omega) (by omega)), fun C hC => ?_, ?_⟩
  · rw [Q 5 (by decide) (by decide), W 2 (by decide) (by decide) (by decide) (by decide) (by decide), g5]
  · rw [Q 6 (by decide) (by decide), W 7 (by decide) (by decide) (by decide) (by decide) (by decide), g6]
  · rw [Q 7 (by decide) (by decide), W 3 (by decide) (by decide) (by decide) (by decide) (by decide), g7]
  · rw [Q 9 (by decide) (by decide), W 5 (by decide) (by decide) (by decide) (by decide) (by decide), g9]
  · rw [e14, W 5 (by decide) (by decide) (by decide) (by decide) (by decide)]
  · rw [Q 11 (by decide) (by decide), W 8 (by decide) (by decide) (by decide) (by decide) (by decide), g11]
  · rw [Q 13 (by decide) (by decide), W 10 (by decide) (by decide) (by decide) (by decide) (by decide), g13]
  · rw [Q 14 (by decide) (by decide), W 11 (by decide) (by decide) (by decide) (by decide) (by decide), g14]
  · rw [Q 15 (by decide) (by decide), W 12 (by decide) (by decide) (by decide) (by decide) (by decide), g15]
  · rw [Q 16 (by decide) (by decide), W 13 (by decide) (by decide) (by decide) (by decide) (by decide), g16]
  · rw [W 2 (by decide) (by decide) (by decide) (by decide) (by decide)] at hC
    have hC' : C < n := by omega
    obtain ⟨k1, k2, k3, k4, k5, k6, k7⟩ := k C hC'
    obtain ⟨-, -, -, hr, ht⟩ := rc C hC'
    refine ⟨k1, k3, ⟨k5, k4⟩, ?_, ht.congr (P _ (by omega) (by omega) (fun D hD => by omega)) (P _ (by omega) (by omega) (fun D hD => by omega)) (P _ (by omega) (by omega) (fun D hD => by omega)) (fun w h1 h2 a11 a12 a13 a14 a15 a16 => Wc C w (by omega) (by omega) a11 a12 a13 a14 a15 a16)⟩
    unfold c2_Rh
    rw [Pc C hC' 10 (by decide) (by decide) (by decide) (by decide) (by decide) (by decide), Pc C hC' 12 (by decide) (by decide) (by decide) (by decide) (by decide) (by decide), Pc C hC' 13 (by decide) (by decide) (by decide) (by decide) (by decide) (by decide), Wc C 7 (by decide) (by decide) (by decide) (by decide) (by decide) (by decide) (by decide) (by decide), Wc C 8 (by decide) (by decide) (by decide) (by decide) (by decide) (by decide) (by decide) (by decide)]
    exact hr
  · have b5 := ok.2.1.1
    have b4 := ok.2.1.2.1
    have x4 : -1000000 ≤ (r_goTaper_m (r_goMeasure_m fr) 280 4).toInt ∧ (r_goTaper_m (r_goMeasure_m fr) 280 4).toInt ≤ 1000000 := by
      rw [r_goTaper_w (by decide)]
      rcases r_meas_4 (f := fr) with e | e
      · rw [e]
        exact b4
      · have m2 : r_mid fr 280 2 = fr 280 2 := r_mid_lo (by decide) (by decide) (by decide)
        have m5 : r_mid fr 280 5 = fr 280 5 := r_mid_lo (by decide) (by decide) (by decide)
        have ep : r_pack_v (r_mid fr) = r_pack_a4 (r_mid fr) n := by
          unfold r_pack_v
          rw [m2, hnn]
        have b := r_pack_b (f := r_mid fr) (n := n) cn.2.1 (by rw [m5]; exact b5) (fun C hC => by
          rw [r_mid_s (by omega), r_mid_s (by omega)]
          exact ⟨(oc C hC).2.1, (oc C hC).2.2.2.2.1⟩)
        rw [e, ep]
        omega
    refine ok.upd (fun w hw => W w (by omega) (by omega) (by omega) (by omega) (by omega)) (fun k hk => ?_) (by rw [W 5 (by decide) (by decide) (by decide) (by decide) (by decide)]; exact b5) x4 (by rw [W 7 (by decide) (by decide) (by decide) (by decide) (by decide)]; exact ok.2.1.2.2.2) (by rw [W 16 (by decide) (by decide) (by decide) (by decide) (by decide), W 20 (by decide) (by decide) (by decide) (by decide) (by decide), W 21 (by decide) (by decide) (by decide) (by decide) (by decide)]; exact ok.2.2.2.2.2.2.1) (fun C hC => ?_)
    · by_cases e : k = 20
      · subst e
        have q20 : t2_lo 20 = -99999 ∧ t2_hi 20 = 99999 := by decide
        have b20 : t2_lo 20 ≤ (fr 280 54).toInt ∧ (fr 280 54).toInt ≤ t2_hi 20 := ok.s (k := 20) (by decide)
        have m54 : r_goMeasure_m fr 280 54 = fr 280 54 := by rw [r_meas_mid (by decide), r_mid_lo (by decide) (by decide) (by decide)]
        have := r_taper_b (f := r_goMeasure_m fr) (by rw [m54]; omega)
        show t2_lo 20 ≤ (r_goTaper_m (r_goMeasure_m fr) 280 54).toInt ∧ (r_goTaper_m (r_goMeasure_m fr) 280 54).toInt ≤ t2_hi 20
        omega
      · rw [W _ (by omega) (by omega) (by omega) (by omega) (by omega)]
        exact ok.s hk
    · have hC' : C < n := by omega
      obtain ⟨k1, k2, k3, t, po, k15, k16, ka⟩ := oc C hC'
      obtain ⟨-, -, -, -, y15, -, yck⟩ := k C hC'
      obtain ⟨m4, m16⟩ := r_mid_cell (f := fr) (C := C) (by omega) k1.1
      have w0 : r_goTaper_m (r_goMeasure_m fr) 280 (444 + 61 * C + 0) = fr 280 (444 + 61 * C + 0) := Wc C 0 (by decide) (by decide) (by decide) (by decide) (by decide) (by decide) (by decide) (by decide)
      refine ⟨yck, ?_, ?_, ?_, ?_, Or.inr y15, ?_, ka.congr (fun w hw => Wc C w (by omega) (by omega) (by omega) (by omega) (by omega) (by omega) (by omega) (by omega))⟩
      · rw [Wc C 2 (by decide) (by decide) (by decide) (by decide) (by decide) (by decide) (by decide) (by decide)]
        exact k2
      · rw [w0, Wt _ (by omega) (by omega)]
        rcases m4 with e | e
        · rw [e]
          exact k3
        · exact e
      · rw [W 7 (by decide) (by decide) (by decide) (by decide) (by decide), Wc C 5 (by decide) (by decide) (by decide) (by decide) (by decide) (by decide) (by decide) (by decide)]
        exact t
      · rw [Wc C 9 (by decide) (by decide) (by decide) (by decide) (by decide) (by decide) (by decide) (by decide)]
        exact po
      · rw [Wt _ (by omega) (by omega)]
        rcases m16 with e | e
        · rw [e]
          exact k16
        · omega
noncomputable def c2_s7 (so : Int32) (f : t2_F) : t2_F := c2_latch_m (c2_faultsOfPack_m (c2_faultsOfCells_m f)) ((so ||| c2_faultsOfCells_v f) ||| c2_faultsOfPack_v (c2_faultsOfCells_m f)) (f 181 6)
noncomputable def c2_s8 (f : t2_F) : t2_F := if (f 190 3).toInt = 0 then f else fl_row f 181 (upd (f 181) 7 (0 : Int32))
theorem c2_IM.flt (h : c2_IM fc fr) {so : Int32} {slow : Bool} (hso : so = if slow = true then (32 : Int32) else (0 : Int32)) (hsl : fr 277 4 = if slow = true then 1 else 0) : c2_IM (c2_s8 (c2_s7 so fc)) (r_goFaults_m fr) ∧ c2_latch_v (c2_faultsOfPack_m (c2_faultsOfCells_m fc)) ((so ||| c2_faultsOfCells_v fc) ||| c2_faultsOfPack_v (c2_faultsOfCells_m fc)) (fc 181 6) = r_goFaults_v fr := by
  have hh := h
  obtain ⟨⟨⟨g5, g6, g7, g8⟩, ⟨g9, g10, g11, g12⟩, g13, g14, g15, g16⟩, rs, gx, cl, ok⟩ := h
  have cn := hh.cnt
  have far := fun C hC => hh.far (C := C) hC
  generalize hnn : (fr 280 2).toInt.toNat = n at *
  have oc : ∀ C : Nat, C < n → t2_OC (fr 280) C := fun C hC => (hh.cell (by omega)).2
  have rc : ∀ C : Nat, C < n → c2_Rc fc fr C ∧ c2_GCM fc fr C := fun C hC => (hh.cell (by omega)).1
  have b17 : t2_lo 17 ≤ (fr 280 51).toInt ∧ (fr 280 51).toInt ≤ t2_hi 17 := ok.s (k := 17) (by decide)
  have q17 : t2_lo 17 = 1 := by decide
  have hb := ok.2.2.2.2.2.2.1.2.1
  obtain ⟨gt, ⟨w1, w2, w3, w4⟩, gtr, gm⟩ := id gx
  have r7 : c2_R7 fc fr n := ⟨⟨cn.2.2, cn.1, cn.2.1⟩, ⟨g6, g7, g9, g11⟩, rs, ⟨gt.1, ok.2.2.1⟩, fun C hC => ⟨by rw [g9]; exact c2_volts_eq (rc C hC).1 (far C hC), (rc C hC).1.2.2.1.2.1, (rc C hC).1.2.1.1⟩, w1, w2, w3, w4, by omega⟩
  obtain ⟨ev, eF⟩ := c2_faults_eq r7 hso hsl
  obtain ⟨f1, f2, f3, f4, f5⟩ := eF (c2_s7 so fc) rfl
  refine ⟨?_, ev⟩
  have P7 : ∀ p : Nat, (p < 190 ∨ 195 ≤ p) → c2_s7 so fc p = fc p := fun p hp => by
    unfold c2_s7
    rw [c2_latch_fr (by omega) (by omega) (by omega) (by omega), c2_faultsOfPack_fr (by omega), c2_faultsOfCells_fr (by omega)]
  have P8 : ∀ p : Nat, p ≠ 181 → c2_s8 (c2_s7 so fc) p = c2_s7 so fc p := fun p hp => by
    unfold c2_s8
    split
    · rfl
    · rw [fl_row_ne hp]
  have P : ∀ p : Nat, p ≠ 181 → (p < 190 ∨ 195 ≤ p) → c2_s8 (c2_s7 so fc) p = fc p := fun p h1 hp => by rw [P8 p h1, P7 p hp]
  have Q : ∀ j : Nat, j ≠ 7 → c2_s8 (c2_s7 so fc) 181 j = fc 181 j := fun j hj => by
    unfold c2_s8
    split
    · rw [P7 _ (by decide)]
    · rw [fl_row_self, upd_ne hj, P7 _ (by decide)]
  have q7 : c2_s8 (c2_s7 so fc) 181 7 = r_goFaults_m fr 280 3 := by
    rw [f5]
    unfold c2_s8
    split
    · rw [P7 _ (by decide)]
    · rw [fl_row_self, upd_self]
  have W : ∀ w : Nat, (w ≠ 6 ∧ w ≠ 20 ∧ (w < 23 ∨ 34 ≤ w) ∧ (w < 167 ∨ 217 ≤ w) ∧ (w < 311 ∨ 315 ≤ w) ∧ w ≠ 3 ∧ w ≠ 15 ∧ w ≠ 16 ∧ w ≠ 22) → r_goFaults_m fr 280 w = fr 280 w := fun w hw => r_goFaults_w hb hw
  have W2 : ∀ w : Nat, (w = 21 ∨ (215 ≤ w ∧ w < 311)) → r_goFaults_m fr 280 w = fr 280 w := fun w hw => by
    by_cases e : w = 215 ∨ w = 216
    · exact r_faults_215 hb e
    · exact W w (by omega)
  have gw : c2_GW (c2_s7 so fc) (r_goFaults_m fr) := ⟨f1, f2, f3, f4⟩
  refine ⟨⟨⟨?_, ?_, q7, ?_⟩, ⟨?_, ?_, ?_, ?_⟩, ?_, ?_, ?_, ?_⟩, rs.congr (P _ (by decide) (by decide)) (fun k hk => W _ (by omega)), ⟨gt.congr ok.2.2.2.2.2.1.1.2 (P _ (by decide) (by decide)) (P _ (by decide) (by decide)) (P _ (by decide) (by decide)) (P _ (by decide) (by decide)) (P _ (by decide) (by decide)) (P _ (by decide) (by decide)) (fun w hw => W w (by omega)), gw.congr (P8 _ (by decide)) (P8 _ (by decide)) (P8 _ (by decide)) (P8 _ (by decide)) (P8 _ (by decide)) (fun w _ => rfl), gtr.congr (P _ (by decide) (by decide)) (P _ (by decide) (by decide)) W2, gm.congr (fun p hp => P p (by omega) (by omega)) (fun w hw => W w (by omega))⟩, fun C hC => ?_, ?_⟩
  · rw [Q 5 (by decide), W 2 (by decide), g5]
  · rw [Q 6 (by decide), W 7 (by decide), g6]
  · rw [Q 8 (by decide), W 4 (by decide), g8]
  · rw [Q 9 (by decide), W 5 (by decide), g9]
  · rw [W 14 (by decide), W 5 (by decide), g10]
  · rw [Q 11 (by decide), W 8 (by decide), g11]
  · rw [Q 12 (by decide), W 9 (by decide), g12]
  · rw [Q 13 (by decide), W 10 (by decide), g13]
  · rw [Q 14 (by decide), W 11 (by decide), g14]
  · rw [Q 15 (by decide), W 12 (by decide), g15]
  · rw [Q 16 (by decide), W 13 (by decide), g16]
  · rw [W 2 (by decide)] at hC
    obtain ⟨ra, ⟨m1, m2, m3, m4⟩, ⟨d15, d14⟩, rh, ti⟩ := cl C hC
    have row : c2_s8 (c2_s7 so fc) (198 + 4 * C) = fc (198 + 4 * C) := P _ (by omega) (by omega)
    have Wc : ∀ w : Nat, r_goFaults_m fr 280 (444 + 61 * C + w) = fr 280 (444 + 61 * C + w) := fun w => W _ (by omega)
    refine ⟨ra.congr row (fun k _ => Wc k), ⟨?_, ?_, ?_, ?_⟩, ⟨?_, ?_⟩, ?_, ti.congr (P _ (by omega) (by omega)) (P _ (by omega) (by omega)) (P _ (by omega) (by omega)) (fun w _ _ _ _ _ _ _ _ => Wc w)⟩
    · rw [row, Wc, m1]
    · rw [row, Wc, m2]
    · rw [row, Wc, m3]
    · rw [row, Wc, m4]
    · rw [Wc, d15]
    · rw [row, Wc, d14]
    · unfold c2_Rh
      rw [row, Wc, Wc]
      exact rh
  · refine ok.upd (fun w hw => W w (by omega)) (fun k hk => by rw [W _ (by omega)]; exact ok.s hk) (by rw [W 5 (by decide)]; exact ok.2.1.1) (by rw [W 4 (by decide)]; exact ok.2.1.2.1) (by rw [W 7 (by decide)]; exact ok.2.1.2.2.2) ⟨f1.2.2.2.2, f4.2.2.2.1, by rw [W 21 (by decide)]; exact ok.2.2.2.2.2.2.1.2.2⟩ (fun C hC => ?_)
    exact (hh.2.2.2.2.2.2.2.2.2.2.2 C hC).congr (fun w hw => W _ (by omega)) (by rw [W 7 (by decide)]; exact Int.le_refl _)
def c2_IK (fc fr : t2_F) : Prop := c2_GSM fc fr ∧ c2_Rs fc fr ∧ c2_GX fc fr ∧ (∀ C : Nat, (C : Int) < (fr 280 2).toInt → c2_Rc fc fr C ∧ c2_GC fc fr C) ∧ t2_OK (fr 280)
theorem c2_IM.kept (h : c2_IM fc fr) : c2_IK (c2_sKeep_m fc) (r_goKept_m fr) := by
  have hh := h
  obtain ⟨⟨⟨g5, g6, g7, g8⟩, ⟨g9, g10, g11, g12⟩, g13, g14, g15, g16⟩, rs, gx, cl, ok⟩ := h
  have cn := hh.cnt
  have far := fun C hC => hh.far (C := C) hC
  generalize hnn : (fr 280 2).toInt.toNat = n at *
  have hM : (fc 181 5).toInt.toNat = n := by omega
  have oc : ∀ C : Nat, C < n → t2_OC (fr 280) C := fun C hC => (hh.cell (by omega)).2
  have rc : ∀ C : Nat, C < n → c2_Rc fc fr C ∧ c2_GCM fc fr C := fun C hC => (hh.cell (by omega)).1
  obtain ⟨gt, gw, gtr, gm⟩ := id gx
  have hpk : c2_packAt_v fc (fc 181 9) = r_pack_v fr := by
    have e := c2_pack_eq (fc := fc) (fr := fr) (n := n) (fun C hC => ⟨(rc C hC).1, far C hC⟩)
    unfold c2_packAt_v r_pack_v
    rw [hM, hnn, g9, e]
  obtain ⟨tr', k⟩ := c2_kept_eq cn.2.2 cn.1 cn.2.1 g9 gtr hpk (fun C hC => by
    obtain ⟨k1, k2, k3, t, po, k15, k16, ka⟩ := oc C hC
    obtain ⟨ra, -, -, rh, ti⟩ := rc C hC
    have vb := r_volts_b (f := fr) (c := Int32.ofNat C) (C := C) ok.2.1.1 k2 po
    exact ⟨ti, c2_volts_eq ra (far C hC), ra.2.1.1, k1, by omega, rh⟩)
  have P : ∀ p : Nat, (p < 196 ∨ 262 ≤ p) → c2_sKeep_m fc p = fc p := fun p hp => by
    unfold c2_sKeep_m
    rw [hM, c2_sKeep_f25_fr (k := n) (fun j hj => by omega) (fun j hj => by omega) (fun j hj => by omega) (fun j hj => by omega), c2_tadd_fr (by omega) (by omega)]
  have W : ∀ w : Nat, w < 444 → w ≠ 21 → (w < 215 ∨ 311 ≤ w) → r_goKept_m fr 280 w = fr 280 w := fun w hw a b => by
    unfold r_goKept_m
    exact r_goKept_f117_w (by omega) (fun C hC => (oc C (by omega)).1) ok.2.2.2.2.2.2.1.2.2 (fun C hC => ⟨(oc C (by omega)).2.2.2.2.2.2.2.1, (oc C (by omega)).2.2.2.2.2.2.2.2.1⟩) (Nat.le_refl _) (Or.inl hw) ⟨a, b⟩
  have P1 : c2_sKeep_m fc 181 = fc 181 := P _ (by decide)
  refine ⟨⟨⟨?_, ?_, ?_, ?_⟩, ⟨?_, ?_, ?_, ?_⟩, ?_, ?_, ?_, ?_⟩, rs.congr (P _ (by decide)) (fun k hk => W _ (by omega) (by omega) (by omega)), ⟨gt.congr ok.2.2.2.2.2.1.1.2 (P _ (by decide)) (P _ (by decide)) (P _ (by decide)) (P _ (by decide)) (P _ (by decide)) (P _ (by decide)) (fun w hw => W w (by omega) (by omega) (by omega)), gw.congr (P _ (by decide)) (P _ (by decide)) (P _ (by decide)) (P _ (by decide)) (P _ (by decide)) (fun w hw => W w (by omega) (by omega) (by omega)), tr', gm.congr (fun p hp => P p (by omega)) (fun w hw => W w (by omega) (by omega) (by omega))⟩, fun C hC => ?_, ?_⟩
  · rw [P1, W 2 (by decide) (by decide) (by decide), g5]
  · rw [P1, W 7 (by decide) (by decide) (by decide), g6]
  · rw [P1, W 3 (by decide) (by decide) (by decide), g7]
  · rw [P1, W 4 (by decide) (by decide) (by decide), g8]
  · rw [P1, W 5 (by decide) (by decide) (by decide), g9]
  · rw [W 14 (by decide) (by decide) (by decide), W 5 (by decide) (by decide) (by decide), g10]
  · rw [P1, W 8 (by decide) (by decide) (by decide), g11]
  · rw [P1, W 9 (by decide) (by decide) (by decide), g12]
  · rw [P1, W 10 (by decide) (by decide) (by decide), g13]
  · rw [P1, W 11 (by decide) (by decide) (by decide), g14]
  · rw [P1, W 12 (by decide) (by decide) (by decide), g15]
  · rw [P1, W 13 (by decide) (by decide) (by decide), g16]
  · rw [W 2 (by decide) (by decide) (by decide)] at hC
    have hC' : C < n := by omega
    obtain ⟨ra, ⟨m1, m2, m3, m4⟩, ⟨d15, d14⟩, -, -⟩ := rc C hC'
    obtain ⟨ti, ⟨t10, t12, t13⟩, co, wo⟩ := k C hC'
    refine ⟨ra.c18 (fun j hj => co j (by omega) (by omega) (by omega)) (by rw [co 18 (by decide) (by decide) (by decide), wo 60 (by decide) (by decide) (by decide)]; exact ra.2.2.2.2.2) (fun w hw => wo w (by omega) (by omega) (by omega)), ⟨?_, ?_, ?_, ?_⟩, ⟨?_, fun _ => ?_⟩, Or.inr ⟨t10, t12, t13⟩, ti⟩
    · rw [co 14 (by decide) (by decide) (by decide), wo 11 (by decide) (by decide) (by decide), m1]
    · rw [co 15 (by decide) (by decide) (by decide), wo 12 (by decide) (by decide) (by decide), m2]
    · rw [co 16 (by decide) (by decide) (by decide), wo 13 (by decide) (by decide) (by decide), m3]
    · rw [co 17 (by decide) (by decide) (by decide), wo 16 (by decide) (by decide) (by decide), m4]
    · rw [t10, wo 15 (by decide) (by decide) (by decide), d15]
    · rw [co 11 (by decide) (by decide) (by decide), wo 14 (by decide) (by decide) (by decide), d14]
  · refine ok.upd (fun w hw => W w (by omega) (by omega) (by omega)) (fun k hk => by rw [W _ (by omega) (by omega) (by omega)]; exact ok.s hk) (by rw [W 5 (by decide) (by decide) (by decide)]; exact ok.2.1.1) (by rw [W 4 (by decide) (by decide) (by decide)]; exact ok.2.1.2.1) (by rw [W 7 (by decide) (by decide) (by decide)]; exact ok.2.1.2.2.2) ⟨by rw [W 16 (by decide) (by decide) (by decide)]; exact ok.2.2.2.2.2.2.1.1, by rw [W 20 (by decide) (by decide) (by decide)]; exact ok.2.2.2.2.2.2.1.2.1, tr'.2.2.2.1⟩ (fun C hC => ?_)
    have hC' : C < n := by omega
    obtain ⟨k1, k2, k3, t, po, k15, k16, ka⟩ := oc C hC'
    obtain ⟨ti, -, -, wo⟩ := k C hC'
    refine ⟨?_, ?_, ?_, ?_, ?_, ?_, ?_, ti.2.2.2.congr (fun w _ => rfl)⟩
    · rw [wo 0 (by decide) (by decide) (by decide), wo 1 (by decide) (by decide) (by decide)]
      exact k1
    · rw [wo 2 (by decide) (by decide) (by decide)]
      exact k2
    · rw [wo 0 (by decide) (by decide) (by decide), wo 4 (by decide) (by decide) (by decide)]
      exact k3
    · rw [wo 5 (by decide) (by decide) (by decide), W 7 (by decide) (by decide) (by decide)]
      exact t
    · rw [wo 9 (by decide) (by decide) (by decide)]
      exact po
    · rw [wo 15 (by decide) (by decide) (by decide)]
      exact k15
    · rw [wo 16 (by decide) (by decide) (by decide)]
      exact k16
theorem c2_IK.tell (h : c2_IK fc fr) : c2_tell_v fc x = r_is_v fr x := by
  obtain ⟨⟨⟨g5, g6, g7, g8⟩, ⟨g9, g10, g11, g12⟩, g13, g14, g15, g16⟩, rs, gx, cl, ok⟩ := h
  have n2 := ok.2.1.2.2.1
  have b5 := ok.2.1.1
  have hpk : c2_packAt_v fc (fc 181 9) = r_pack_v fr := by
    have e := c2_pack_eq (fc := fc) (fr := fr) (n := (fr 280 2).toInt.toNat) (fun C hC => ⟨(cl C (by omega)).1, t2_far_ok b5 (ok.2.2.2.2.2.2.2 C (by omega)).2.1⟩)
    unfold c2_packAt_v r_pack_v
    rw [g5, g9, e]
  have ha := c2_actual_eq g7 gx.1.1 ok.2.2.1
  unfold c2_tell_v r_is_v
  rw [g5, g7, g8, hpk, g9, gx.2.1.1.1, g6, g11, g12, g13, g14, g15, g16, ha, gx.1.2.2.2.2.1, gx.1.2.1.1]
theorem c2_IK.rules (h : c2_IK fc fr) : c2_IK (c2_obeyRules_m fc) (r_goRules_m fr) := by
  have tl := fun x => h.tell (x := x)
  have hh := h
  obtain ⟨⟨⟨g5, g6, g7, g8⟩, ⟨g9, g10, g11, g12⟩, g13, g14, g15, g16⟩, rs, gx, cl, ok⟩ := h
  have rs' := c2_rules_eq rs gx.1.2.2.1 ok.2.2.2.2.1.2.1 tl
  have P : ∀ p : Nat, p ≠ 184 → c2_obeyRules_m fc p = fc p := fun p hp => c2_obeyRules_fr hp
  have W : ∀ w : Nat, (w < 34 ∨ 64 ≤ w) → r_goRules_m fr 280 w = fr 280 w := fun w hw => r_goRules_w ok.2.2.2.2.1.1 ok.2.2.2.2.1.2.1 hw
  have P1 : c2_obeyRules_m fc 181 = fc 181 := P _ (by decide)
  refine ⟨⟨⟨?_, ?_, ?_, ?_⟩, ⟨?_, ?_, ?_, ?_⟩, ?_, ?_, ?_, ?_⟩, rs', gx.congr ok.2.2.2.2.2.1.1.2 (fun p hp => P p (by omega)) (fun w hw => W w (by omega)), fun C hC => ?_, ?_⟩
  · rw [P1, W 2 (by decide), g5]
  · rw [P1, W 7 (by decide), g6]
  · rw [P1, W 3 (by decide), g7]
  · rw [P1, W 4 (by decide), g8]
  · rw [P1, W 5 (by decide), g9]
  · rw [W 14 (by decide), W 5 (by decide), g10]
  · rw [P1, W 8 (by decide), g11]
  · rw [P1, W 9 (by decide), g12]
  · rw [P1, W 10 (by decide), g13]
  · rw [P1, W 11 (by decide), g14]
  · rw [P1, W 12 (by decide), g15]
  · rw [P1, W 13 (by decide), g16]
  · rw [W 2 (by decide)] at hC
    exact ⟨(cl C hC).1.congr (P _ (by omega)) (fun k hk => W _ (by omega)), (cl C hC).2.congr (fun j _ _ => by rw [P _ (by omega)]) (fun p hp => P p (by omega)) (fun w hw => W _ (by omega))⟩
  · refine ok.upd (fun w hw => W w (by omega)) (r_rules_b ok) (by rw [W 5 (by decide)]; exact ok.2.1.1) (by rw [W 4 (by decide)]; exact ok.2.1.2.1) (by rw [W 7 (by decide)]; exact ok.2.1.2.2.2) (by rw [W 16 (by decide), W 20 (by decide), W 21 (by decide)]; exact ok.2.2.2.2.2.2.1) (fun C hC => ?_)
    exact (ok.2.2.2.2.2.2.2 C hC).congr (fun w hw => W _ (by omega)) (by rw [W 7 (by decide)]; exact Int.le_refl _)
noncomputable def c2_s9 (f : t2_F) : t2_F := fl_row f 181 (upd (f 181) 10 (f 181 9))
theorem c2_IK.s9 (h : c2_IK fc fr) : c2_I (c2_s9 fc) fr := by
  obtain ⟨⟨⟨g5, g6, g7, g8⟩, ⟨g9, g10, g11, g12⟩, g13, g14, g15, g16⟩, rs, gx, cl, ok⟩ := h
  have P : ∀ p : Nat, p ≠ 181 → c2_s9 fc p = fc p := fun p hp => fl_row_ne hp
  have Q : ∀ j : Nat, j ≠ 10 → c2_s9 fc 181 j = fc 181 j := fun j hj => by unfold c2_s9; rw [fl_row_self, upd_ne hj]
  refine ⟨⟨⟨?_, ?_, ?_, ?_⟩, ⟨?_, ?_, ?_, ?_⟩, ?_, ?_, ?_, ?_⟩, rs.congr (P _ (by decide)) (fun k hk => rfl), gx.congr ok.2.2.2.2.2.1.1.2 (fun p hp => P p (by omega)) (fun w hw => rfl), fun C hC => ⟨(cl C hC).1.congr (P _ (by omega)) (fun k hk => rfl), (cl C hC).2.congr (fun j _ _ => by rw [P _ (by omega)]) (fun p hp => P p (by omega)) (fun w hw => rfl)⟩, ok⟩
  · rw [Q 5 (by decide), g5]
  · rw [Q 6 (by decide), g6]
  · rw [Q 7 (by decide), g7]
  · rw [Q 8 (by decide), g8]
  · rw [Q 9 (by decide), g9]
  · unfold c2_s9
    rw [fl_row_self, upd_self, g10, g9]
  · rw [Q 11 (by decide), g11]
  · rw [Q 12 (by decide), g12]
  · rw [Q 13 (by decide), g13]
  · rw [Q 14 (by decide), g14]
  · rw [Q 15 (by decide), g15]
  · rw [Q 16 (by decide), g16]
noncomputable def c2_so (f : t2_F) : Int32 := if (c2_moveBus_v (c2_s1 f)).toInt = 0 then (0 : Int32) else (32 : Int32)
noncomputable def c2_u6 (f : t2_F) : t2_F := c2_sMeasure_m (c2_s5 (c2_balance_m (c2_passCells_m (c2_letCurrent_m (c2_moveBus_m (c2_s1 f))))))
noncomputable def c2_sec_m (f : t2_F) : t2_F := c2_s9 (c2_obeyRules_m (c2_sKeep_m (c2_s8 (c2_s7 (c2_so f) (c2_u6 f)))))
noncomputable def c2_sec_v (f : t2_F) : Int32 := c2_latch_v (c2_faultsOfPack_m (c2_faultsOfCells_m (c2_u6 f))) ((c2_so f ||| c2_faultsOfCells_v (c2_u6 f)) ||| c2_faultsOfPack_v (c2_faultsOfCells_m (c2_u6 f))) (c2_u6 f 181 6)
theorem c2_I.sec (h : c2_I fc fr) (ht : (fr 280 7).toInt < 9999) : c2_I (c2_sec_m fc) (r_sec_m fr) ∧ c2_sec_v fc = r_sec_v fr := by
  have c0 : (0 : Int32).toInt = 0 := rfl
  have c1 : (1 : Int32).toInt = 1 := by decide +kernel
  obtain ⟨i1, t1⟩ := h.s1 ht
  obtain ⟨i2, sv, s01, -⟩ := i1.bus
  obtain ⟨i3, w3⟩ := i2.cur
  have o1 : ∀ w : Nat, w ≠ 7 → r_t1 fr 280 w = fr 280 w := fun w hw => by unfold r_t1; rw [fl_row_self, upd_ne hw]
  have o2 : ∀ w : Nat, w ≠ 3 → w ≠ 4 → r_goBus_m (r_t1 fr) 280 w = r_t1 fr 280 w := fun w h3 h4 => by rw [r_goBus_w2, if_neg h4, if_neg h3]
  have i4 := i3.cells (fun C hC => by
    have e7 : r_goCurrent_m (r_goBus_m (r_t1 fr)) 280 7 = r_t1 fr 280 7 := by rw [w3 7 (by decide) (fun D _ => by omega), o2 7 (by decide) (by decide)]
    have e5 : r_goCurrent_m (r_goBus_m (r_t1 fr)) 280 (444 + 61 * C + 5) = fr 280 (444 + 61 * C + 5) := by rw [w3 _ (by omega) (fun D _ => by omega), o2 _ (by omega) (by omega), o1 _ (by omega)]
    have e2 : r_goCurrent_m (r_goBus_m (r_t1 fr)) 280 2 = fr 280 2 := by rw [w3 2 (by decide) (fun D _ => by omega), o2 2 (by decide) (by decide), o1 2 (by decide)]
    rw [e2] at hC
    have t := (h.cell hC).2.2.2.2.1.2
    rw [e5, e7, t1]
    omega)
  have i6 := i4.bal.s5.meas
  have f277 : r_v6 fr 277 4 = r_goBus_m (r_t1 fr) 277 4 := by
    unfold r_v6
    rw [r_goTaper_fr (by decide), r_goMeasure_fr (by decide)]
    unfold r_t5
    rw [fl_row_ne (by decide), r_balance_277 (by decide), r_goCells_fr (by decide), r_goCurrent_fr (by decide)]
  have hsl : r_v6 fr 277 4 = if (decide (r_goBus_m (r_t1 fr) 277 4 = 1)) = true then 1 else 0 := by
    rw [f277]
    rcases s01 with e | e
    · rw [e]
      decide
    · rw [e]
      decide
  have hso : c2_so fc = if (decide (r_goBus_m (r_t1 fr) 277 4 = 1)) = true then (32 : Int32) else (0 : Int32) := by
    unfold c2_so
    rw [sv]
    rcases s01 with e | e
    · rw [e]
      decide
    · rw [e]
      decide
  obtain ⟨i8, v8⟩ := i6.flt hso hsl
  exact ⟨i8.kept.rules.s9, v8⟩
end C2STB

end
