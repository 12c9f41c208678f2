/-! ===== the reference's cheapest: its table says where there is no way ===== -/
section ATCH
variable {L : Nat} {xs : Nat → Int32} {m : fl_M} {Q : Option fl_V → fl_M → Prop}
theorem at_isin {v l t : Int32} (k : ∀ b : Int32, (b = 1 ∧ l.toInt ≤ v.toInt ∧ v.toInt ≤ t.toInt) ∨ (b = 0 ∧ ¬ (l.toInt ≤ v.toInt ∧ v.toInt ≤ t.toInt)) → Q (some (.inl b)) m) : fl_Tq (pw_P L xs) 185 0 (fl_args (am_mxl (pw_P L xs) 185) [.inl v, .inl l, .inl t]) [] m Q := by
  refine fl_Tq.stp rfl rfl (fl_bo rfl) rfl ?_
  refine fl_Tq.stp rfl rfl (fl_bo rfl) rfl ?_
  by_cases h1 : v.toInt < l.toInt
  · refine fl_Tq.jt rfl (fl_bo rfl) (by rw [at_c2]; exact decide_eq_true (by omega)) rfl ?_
    refine fl_Tq.stp rfl rfl (fl_bo rfl) rfl ?_
    exact fl_Tq.ret rfl rfl rfl (k _ (Or.inr ⟨rfl, by omega⟩))
  refine fl_Tq.jf rfl (fl_bo rfl) (by rw [at_c2]; exact decide_eq_false (by omega)) rfl ?_
  refine fl_Tq.stp rfl rfl (fl_bo rfl) rfl ?_
  refine fl_Tq.stp rfl rfl (fl_bo rfl) rfl ?_
  by_cases h2 : t.toInt < v.toInt
  · refine fl_Tq.jt rfl (fl_bo rfl) (by rw [at_c2]; exact decide_eq_true (by omega)) rfl ?_
    refine fl_Tq.stp rfl rfl (fl_bo rfl) rfl ?_
    exact fl_Tq.ret rfl rfl rfl (k _ (Or.inr ⟨rfl, by omega⟩))
  refine fl_Tq.jf rfl (fl_bo rfl) (by rw [at_c2]; exact decide_eq_false (by omega)) rfl ?_
  refine fl_Tq.stp rfl rfl (fl_bo rfl) rfl ?_
  refine fl_Tq.stp rfl rfl (fl_bo rfl) rfl ?_
  exact fl_Tq.ret rfl rfl rfl (k _ (Or.inl ⟨rfl, by omega, by omega⟩))
/-- the place of a price -/
def at_px (h k mm t : Nat) : Nat := ((h * 25 + k) * 13 + mm) * 2 + t
theorem at_price {h k mm t : Nat} {hi ki mi_ ti : Int32} (eh : hi.toInt = h) (ek : ki.toInt = k) (em : mi_.toInt = mm) (et : ti.toInt = t) (bh : h ≤ 24) (bk : k ≤ 24) (bm : mm ≤ 12) (bt : t ≤ 1) (kk : ∀ v : Int32, v.toInt = at_px h k mm t → Q (some (.inl v)) m) : fl_Tq (pw_P L xs) 305 0 (fl_args (am_mxl (pw_P L xs) 305) [.inl hi, .inl ki, .inl mi_, .inl ti]) [] m Q := by
  refine fl_Tq.stp rfl rfl (fl_bo rfl) rfl ?_
  refine fl_Tq.stp rfl rfl (fl_bo rfl) rfl ?_
  refine fl_Tq.stp rfl rfl (fl_bo rfl) rfl ?_
  refine fl_Tq.stp rfl rfl (fl_bo rfl) rfl ?_
  refine fl_Tq.stp rfl rfl (fl_bo rfl) rfl ?_
  refine fl_Tq.stp rfl rfl (fl_bo rfl) rfl ?_
  refine fl_Tq.stp rfl rfl (fl_bo rfl) rfl ?_
  refine fl_Tq.stp rfl rfl (fl_bo rfl) rfl ?_
  refine fl_Tq.stp rfl rfl (fl_bo rfl) rfl ?_
  refine fl_Tq.stp rfl rfl (fl_bo rfl) rfl ?_
  refine fl_Tq.stp rfl rfl (fl_bo rfl) rfl ?_
  refine fl_Tq.stp rfl rfl (fl_bo rfl) rfl ?_
  refine fl_Tq.stp rfl rfl (fl_bo rfl) rfl ?_
  refine fl_Tq.ret rfl rfl rfl (kk _ ?_)
  dsimp only
  have e25 : (Int8.ofInt 25).toInt32.toInt = 25 := by decide +kernel
  have e13 : (Int8.ofInt 13).toInt32.toInt = 13 := by decide +kernel
  have e2 : (Int32.ofInt 2).toInt = 2 := rfl
  have a1 : (hi * (Int8.ofInt 25).toInt32).toInt = (h : Int) * 25 := by rw [at_mul32] <;> rw [eh, e25] <;> omega
  have a2 : (hi * (Int8.ofInt 25).toInt32 + ki).toInt = (h : Int) * 25 + k := by rw [at_add32] <;> rw [a1, ek] <;> omega
  have a3 : ((hi * (Int8.ofInt 25).toInt32 + ki) * (Int8.ofInt 13).toInt32).toInt = ((h : Int) * 25 + k) * 13 := by rw [at_mul32] <;> rw [a2, e13] <;> omega
  have a4 : ((hi * (Int8.ofInt 25).toInt32 + ki) * (Int8.ofInt 13).toInt32 + mi_).toInt = ((h : Int) * 25 + k) * 13 + mm := by rw [at_add32] <;> rw [a3, em] <;> omega
  have a5 : (((hi * (Int8.ofInt 25).toInt32 + ki) * (Int8.ofInt 13).toInt32 + mi_) * Int32.ofInt 2).toInt = (((h : Int) * 25 + k) * 13 + mm) * 2 := by rw [at_mul32] <;> rw [a4, e2] <;> omega
  unfold at_px
  rw [at_add32] <;> rw [a5, et] <;> omega
theorem at_dec {x : Int32} {n : Nat} (h : x.toInt = n) (h1 : 1 ≤ n) : (x - Int32.ofInt 1).toInt = ((n - 1 : Nat) : Int) := by
  have e1 : (Int32.ofInt 1).toInt = 1 := rfl
  have := at_i32 x
  rw [at_sub32] <;> rw [h, e1] <;> omega
theorem at_k83 : fk_K 284 = 83 := by decide +kernel
theorem at_taken {h k mm t : Nat} {hi ki mi_ ti : Int32} (eh : hi.toInt = h) (ek : ki.toInt = k) (em : mi_.toInt = mm) (et : ti.toInt = t) (bh : h ≤ 24) (bh1 : 1 ≤ h) (bk : k ≤ 24) (bm : mm ≤ 12) (bt : t ≤ 1) (kk : ∀ v : Int32, (k = 0 ∨ (t = 0 ∧ mm = 0) → v = Int32.ofInt (-1)) → Q (some (.inl v)) m) : fl_Tq (pw_P L xs) 306 0 (fl_args (am_mxl (pw_P L xs) 306) [at_this, .inl hi, .inl ki, .inl mi_, .inl ti]) [] m Q := by
  have e1 : (Int32.ofInt 1).toInt = 1 := rfl
  -- from place 13: s the stretches left
  have from13 : ∀ (s : Int32), s.toInt = (if t = 1 then (mm : Int) else (mm : Int) - 1) → fl_Tq (pw_P L xs) 306 13 [some at_this, some (.inl hi), some (.inl ki), some (.inl mi_), some (.inl ti), none, none] [.inl s] m Q := by
    intro s hs
    refine fl_Tq.stp rfl rfl (fl_bo rfl) rfl ?_
    refine fl_Tq.stp rfl rfl (fl_bo rfl) rfl ?_
    by_cases hk : k = 0
    · refine fl_Tq.zt rfl (fl_bo rfl) (by rw [at_c1, ek, hk]; rfl) rfl ?_
      refine fl_Tq.stp rfl rfl (fl_bo rfl) rfl ?_
      exact fl_Tq.ret rfl rfl rfl (kk _ (fun _ => rfl))
    refine fl_Tq.zf rfl (fl_bo rfl) (by rw [at_c1, ek]; exact decide_eq_false (by omega)) rfl ?_
    refine fl_Tq.stp rfl rfl (fl_bo rfl) rfl ?_
    by_cases hs0 : s.toInt < 0
    · refine fl_Tq.zf rfl (fl_bo rfl) (by rw [at_c1]; exact decide_eq_false (by omega)) rfl ?_
      refine fl_Tq.stp rfl rfl (fl_bo rfl) rfl ?_
      exact fl_Tq.ret rfl rfl rfl (kk _ (fun _ => rfl))
    have hns : ¬ (k = 0 ∨ (t = 0 ∧ mm = 0)) := by
      rintro (h | ⟨h, h'⟩)
      · exact hk h
      · rw [if_neg (by omega)] at hs; omega
    refine fl_Tq.zt rfl (fl_bo rfl) (by rw [at_c1]; exact decide_eq_true (by omega)) rfl ?_
    obtain ⟨sn, hsn⟩ : ∃ sn : Nat, s.toInt = sn := ⟨s.toInt.toNat, by omega⟩
    have bs : sn ≤ 12 := by split at hs <;> omega
    refine fl_Tq.stp rfl rfl (fl_bo rfl) rfl ?_
    refine fl_Tq.stp rfl rfl (fl_bo rfl) rfl ?_
    refine fl_Tq.stp rfl rfl (fl_bo rfl) rfl ?_
    refine fl_Tq.stp rfl rfl (fl_bo rfl) rfl ?_
    refine fl_Tq.stp rfl rfl (fl_bo rfl) rfl ?_
    refine fl_Tq.stp rfl rfl (fl_bo rfl) rfl ?_
    refine fl_Tq.stp rfl rfl (fl_bo rfl) rfl ?_
    refine fl_Tq.stp rfl rfl (fl_bo rfl) rfl ?_
    refine fl_Tq.stp rfl rfl (fl_bo rfl) rfl ?_
    refine fl_Tq.stp rfl rfl (fl_bo rfl) rfl ?_
    refine fl_Tq.cal rfl rfl (fl_bo rfl) rfl ?_
    refine at_price (h := h - 1) (k := k - 1) (mm := sn) (t := 1) (at_dec eh bh1) (at_dec ek (by omega)) hsn e1 (by omega) (by omega) bs (by omega) (fun v hv => ?_)
    refine fl_Tq.ld (p := 284) (τ := 83) (n := 16250) (z := (0, 0, 0)) (k := at_px (h - 1) (k - 1) sn 1) rfl (fl_bo rfl) rfl hv (by unfold at_px; omega) ?_
    refine fl_Tq.stp rfl rfl (fl_bo rfl) rfl ?_
    refine fl_Tq.stp rfl rfl (fl_bo rfl) rfl ?_
    refine fl_Tq.stp rfl rfl (fl_bo rfl) rfl ?_
    generalize m.1 284 (at_px (h - 1) (k - 1) sn 1) = rv
    by_cases hr : rv.toInt = -1
    · refine fl_Tq.jf rfl (fl_bo rfl) ?_ rfl ?_
      · rw [at_c2, hr]; rfl
      refine fl_Tq.stp rfl rfl (fl_bo rfl) rfl ?_
      refine fl_Tq.stp rfl rfl (fl_bo rfl) rfl ?_
      exact fl_Tq.ret rfl rfl rfl (kk _ (fun h => absurd h hns))
    · refine fl_Tq.jt rfl (fl_bo rfl) ?_ rfl ?_
      · rw [at_c2]
        show (!decide (rv.toInt - -1 = 0)) = true
        rw [decide_eq_false (by omega)]; rfl
      refine fl_Tq.stp rfl rfl (fl_bo rfl) rfl ?_
      refine fl_Tq.stp rfl rfl (fl_bo rfl) rfl ?_
      refine fl_Tq.stp rfl rfl (fl_bo rfl) rfl ?_
      refine fl_Tq.stp rfl rfl (fl_bo rfl) rfl ?_
      refine fl_Tq.stp rfl rfl (fl_bo rfl) rfl ?_
      refine fl_Tq.stp rfl rfl (fl_bo rfl) rfl ?_
      refine fl_Tq.stp rfl rfl (fl_bo rfl) rfl ?_
      refine fl_Tq.stp rfl rfl (fl_bo rfl) rfl ?_
      have ei : ((Int16.ofInt 315).toInt32 + hi - Int32.ofInt 1).toInt = ((315 + h - 1 : Nat) : Int) := by
        have e3 : (Int16.ofInt 315).toInt32.toInt = 315 := by decide +kernel
        have e4 : ((Int16.ofInt 315).toInt32 + hi).toInt = 315 + (h : Int) := by rw [at_add32] <;> rw [e3, eh] <;> omega
        rw [at_sub32] <;> rw [e4, e1] <;> omega
      refine fl_Tq.ld (p := 280) (τ := 79) (n := 29780) (z := (0, 0, 0)) (k := 315 + h - 1) rfl (fl_bo rfl) rfl ei (by omega) ?_
      refine fl_Tq.stp rfl rfl (fl_bo rfl) rfl ?_
      exact fl_Tq.ret rfl rfl rfl (kk _ (fun h => absurd h hns))
  refine fl_Tq.stp rfl rfl (fl_bo rfl) rfl ?_
  refine fl_Tq.stp rfl rfl (fl_bo rfl) rfl ?_
  by_cases ht : t = 1
  · refine fl_Tq.jf rfl (fl_bo rfl) ?_ rfl ?_
    · rw [at_c2, et, ht]; rfl
    refine fl_Tq.stp rfl rfl (fl_bo rfl) rfl ?_
    refine fl_Tq.stp rfl rfl (fl_bo rfl) rfl ?_
    exact from13 mi_ (by rw [if_pos ht]; exact em)
  · refine fl_Tq.jt rfl (fl_bo rfl) ?_ rfl ?_
    · rw [at_c2, et]
      have : t = 0 := by omega
      rw [this]; rfl
    refine fl_Tq.stp rfl rfl (fl_bo rfl) rfl ?_
    refine fl_Tq.stp rfl rfl (fl_bo rfl) rfl ?_
    refine fl_Tq.stp rfl rfl (fl_bo rfl) rfl ?_
    exact from13 _ (by rw [if_neg ht, at_sub32] <;> rw [em, e1] <;> omega)
/-- only the table is changed -/
def at_TL (m m' : fl_M) : Prop := m'.2 = m.2 ∧ ∀ p j : Nat, (p = 284 → 16250 ≤ j) → m'.1 p j = m.1 p j
theorem at_TL.up {m m' : fl_M} {j : Nat} {x : Int32} (h : at_TL m m') (hj : j < 16250) : at_TL m (fl_up m'.1 284 j x, m'.2) := by
  refine ⟨h.1, fun p i hp => ?_⟩
  show fl_up m'.1 284 j x p i = _
  rw [bl_un (fun e => by have := hp e; omega)]
  exact h.2 p i hp
theorem at_TL.good {m m' : fl_M} (hg : at_Good at_XI m) (h : at_TL m m') : at_Good at_XI m' ∧ at_MD m m' [(83, false, 0, 16249)] := by
  have hX : at_XI m' := hg.2.2.keep (by rw [h.1]) (fun p j hp => h.2 p j (fun e => by unfold fl_N at hp; omega))
  have ew : ∀ j, at_w m' j = at_w m j := fun j => by
    unfold at_w
    rw [h.2 280 j (fun e => by omega)]
  refine ⟨hg.mk (by rw [h.1]) hX (fun p j hp _ hne => ?_) (by rw [ew]; exact hg.w0) (by rw [ew]; exact hg.w1) (hg.AK.congr (fun j _ _ => ew j)), ⟨by rw [h.1]; exact Nat.le_refl _, fun p j hne => ⟨_, List.mem_singleton.mpr rfl, ?_⟩⟩⟩
  · by_cases e : p = 284
    · subst e
      rw [at_k83]
      decide +kernel
    · exact absurd (h.2 p j (fun h => absurd h e)) hne
  · by_cases e : p = 284
    · subst e
      refine ⟨at_k83.symm, ?_⟩
      rw [if_neg (by decide)]
      by_cases hj : j < 16250
      · show (0 : Int) ≤ j ∧ (j : Int) ≤ 16249
        omega
      · exact absurd (h.2 284 j (fun _ => by omega)) hne
    · exact absurd (h.2 p j (fun h => absurd h e)) hne
/-- where no hour can be taken the row is the row before -/
def at_LP (n : Nat) (m : fl_M) : Prop := ∀ h k x : Nat, 1 ≤ h → h ≤ 24 → k < 25 → x < 26 → (h * 25 + k) * 26 + x < n → (k = 0 ∨ x = 0) → m.1 284 ((h * 25 + k) * 26 + x) = m.1 284 (((h - 1) * 25 + k) * 26 + 2 * (x / 2))
theorem at_half {x : Int32} {n : Nat} (h : x.toInt = n) : (x / Int32.ofInt 2).toInt = ((n / 2 : Nat) : Int) ∧ (x - x / Int32.ofInt 2 * Int32.ofInt 2).toInt = ((n % 2 : Nat) : Int) := by
  have e2 : (Int32.ofInt 2).toInt = 2 := rfl
  have hx := at_i32 x
  have q1 : (x / Int32.ofInt 2).toInt = ((n / 2 : Nat) : Int) := by
    rw [Int32.toInt_div, e2, h, Int.tdiv_eq_ediv_of_nonneg (by omega)]
    rw [Int.bmod_eq_of_le (by omega) (by omega)]
    omega
  have q2 : (x / Int32.ofInt 2 * Int32.ofInt 2).toInt = ((n / 2 * 2 : Nat) : Int) := by
    rw [at_mul32] <;> rw [q1, e2] <;> omega
  refine ⟨q1, ?_⟩
  rw [at_sub32] <;> rw [q2, h] <;> omega
end ATCH
