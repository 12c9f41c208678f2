/-! ===== set answers alike: what is bounded how (case 3) ===== -/
def at_lo3 (n : Nat) : Int := ((at_i0 278).getD (3 * n) 0).toInt
def at_hi3 (n : Nat) : Int := ((at_i0 278).getD (3 * n + 1) 0).toInt
theorem at_tab3 : ∀ n : Fin 30, (pw_tbl 2 n.val).toInt = at_lo3 n.val ∧ (pw_tbl 3 n.val).toInt = at_hi3 n.val ∧ -99999 ≤ at_lo3 n.val ∧ at_hi3 n.val ≤ 99999 := by decide +kernel
def at_sb (w v : Int32) : Prop := 0 ≤ w.toInt ∧ w.toInt ≤ 29 ∧ at_lo3 w.toInt.toNat ≤ v.toInt ∧ v.toInt ≤ at_hi3 w.toInt.toNat
theorem at_rg34 : (List.range 30).all (fun n => (at_rg at_TA).all (fun r => !at_memb (34 + (n : Int)) r || decide (r = (0, 34, 0, 1, 30, -99999, 99999)))) = true := by decide +kernel
section ATSE
variable {L : Nat} {xs : Nat → Int32} {m : fl_M} {Q : Option fl_V → fl_M → Prop}
theorem at_within {v l t : Int32} (k : ∀ b : Int32, (b = 1 ∧ l.toInt ≤ v.toInt ∧ v.toInt ≤ t.toInt) ∨ (b = 0 ∧ ¬ (l.toInt ≤ v.toInt ∧ v.toInt ≤ t.toInt)) → Q (some (.inl b)) m) : fl_Tq (pw_P L xs) 173 0 (fl_args (am_mxl (pw_P L xs) 173) [.inl v, .inl l, .inl t]) [] m Q := by
  refine fl_Tq.stp rfl rfl (fl_bo rfl) rfl ?_
  refine fl_Tq.stp rfl rfl (fl_bo rfl) rfl ?_
  by_cases h1 : v.toInt < l.toInt
  · refine fl_Tq.jt rfl (fl_bo rfl) (by rw [at_c2]; exact decide_eq_true (by omega)) rfl ?_
    refine fl_Tq.stp rfl rfl (fl_bo rfl) rfl ?_
    exact fl_Tq.ret rfl rfl rfl (k _ (Or.inr ⟨rfl, by omega⟩))
  refine fl_Tq.jf rfl (fl_bo rfl) (by rw [at_c2]; exact decide_eq_false (by omega)) rfl ?_
  refine fl_Tq.stp rfl rfl (fl_bo rfl) rfl ?_
  refine fl_Tq.stp rfl rfl (fl_bo rfl) rfl ?_
  by_cases h2 : t.toInt < v.toInt
  · refine fl_Tq.jt rfl (fl_bo rfl) (by rw [at_c2]; exact decide_eq_true (by omega)) rfl ?_
    refine fl_Tq.stp rfl rfl (fl_bo rfl) rfl ?_
    exact fl_Tq.ret rfl rfl rfl (k _ (Or.inr ⟨rfl, by omega⟩))
  refine fl_Tq.jf rfl (fl_bo rfl) (by rw [at_c2]; exact decide_eq_false (by omega)) rfl ?_
  refine fl_Tq.stp rfl rfl (fl_bo rfl) rfl ?_
  refine fl_Tq.stp rfl rfl (fl_bo rfl) rfl ?_
  exact fl_Tq.ret rfl rfl rfl (k _ (Or.inl ⟨rfl, by omega, by omega⟩))
theorem at_x174 {w v : Int32} (k : ∀ b : Int32, (b = 1 ∧ at_sb w v) ∨ (b = 0 ∧ ¬ at_sb w v) → Q (some (.inl b)) m) : fl_Tq (pw_P L xs) 174 0 (fl_args (am_mxl (pw_P L xs) 174) [.inl w, .inl v]) [] m Q := by
  have e29 : (Int8.ofInt 29).toInt32.toInt = 29 := by decide +kernel
  have e0 : (Int32.ofInt 0).toInt = 0 := rfl
  refine fl_Tq.stp rfl rfl (fl_bo rfl) rfl ?_
  refine fl_Tq.stp rfl rfl (fl_bo rfl) rfl ?_
  refine fl_Tq.stp rfl rfl (fl_bo rfl) rfl ?_
  refine fl_Tq.cal rfl rfl (fl_bo rfl) rfl ?_
  refine at_within (fun b hb => ?_)
  rw [e29, e0] at hb
  rcases hb with ⟨rfl, w1, w2⟩ | ⟨rfl, hw⟩
  case inr =>
    refine fl_Tq.zt rfl (fl_bo rfl) (by rw [at_c1]; rfl) rfl ?_
    refine fl_Tq.stp rfl rfl (fl_bo rfl) rfl ?_
    exact fl_Tq.ret rfl rfl rfl (k _ (Or.inr ⟨rfl, fun h => hw ⟨h.1, h.2.1⟩⟩))
  refine fl_Tq.zf rfl (fl_bo rfl) (by rw [at_c1]; rfl) rfl ?_
  obtain ⟨n, hn⟩ : ∃ n : Nat, w.toInt = n := ⟨w.toInt.toNat, by omega⟩
  obtain ⟨t1, t2, -, -⟩ := at_tab3 ⟨n, by omega⟩
  dsimp only at t1 t2
  refine fl_Tq.stp rfl rfl (fl_bo rfl) rfl ?_
  refine fl_Tq.stp rfl rfl (fl_bo rfl) rfl ?_
  refine fl_Tq.stp rfl rfl (fl_bo rfl) rfl ?_
  refine fl_Tq.tld (n := 30) (f := pw_tbl 2) (k := n) rfl (fl_bo rfl) rfl hn (by omega) ?_
  refine fl_Tq.stp rfl rfl (fl_bo rfl) rfl ?_
  refine fl_Tq.stp rfl rfl (fl_bo rfl) rfl ?_
  refine fl_Tq.tld (n := 30) (f := pw_tbl 3) (k := n) rfl (fl_bo rfl) rfl hn (by omega) ?_
  refine fl_Tq.cal rfl rfl (fl_bo rfl) rfl ?_
  refine at_within (fun b hb => ?_)
  rw [t1, t2] at hb
  have hn2 : w.toInt.toNat = n := by omega
  rcases hb with ⟨rfl, v1, v2⟩ | ⟨rfl, hv⟩
  · refine fl_Tq.zf rfl (fl_bo rfl) (by rw [at_c1]; rfl) rfl ?_
    refine fl_Tq.stp rfl rfl (fl_bo rfl) rfl ?_
    refine fl_Tq.stp rfl rfl (fl_bo rfl) rfl ?_
    exact fl_Tq.ret rfl rfl rfl (k _ (Or.inl ⟨rfl, w1, w2, by rw [hn2]; exact v1, by rw [hn2]; exact v2⟩))
  · refine fl_Tq.zt rfl (fl_bo rfl) (by rw [at_c1]; rfl) rfl ?_
    refine fl_Tq.stp rfl rfl (fl_bo rfl) rfl ?_
    exact fl_Tq.ret rfl rfl rfl (k _ (Or.inr ⟨rfl, fun h => hv (by have h3 := h.2.2; rw [hn2] at h3; exact h3)⟩))
theorem at_m246 {w v : Int32} (hX : at_XI m) (k : ∀ b : Int32, (b = 1 ∧ at_sb w v) ∨ (b = 0 ∧ ¬ at_sb w v) → Q (some (.inl b)) m) : fl_Tq (pw_P L xs) 246 0 (fl_args (am_mxl (pw_P L xs) 246) [at_this, .inl w, .inl v]) [] m Q := by
  have e29 : (Int8.ofInt 29).toInt32.toInt = 29 := by decide +kernel
  have e0 : (Int32.ofInt 0).toInt = 0 := rfl
  have e3 : (Int32.ofInt 3).toInt = 3 := rfl
  have e1 : (Int32.ofInt 1).toInt = 1 := rfl
  refine fl_Tq.stp rfl rfl (fl_bo rfl) rfl ?_
  refine fl_Tq.stp rfl rfl (fl_bo rfl) rfl ?_
  refine fl_Tq.stp rfl rfl (fl_bo rfl) rfl ?_
  refine fl_Tq.cal rfl rfl (fl_bo rfl) rfl ?_
  refine at_isin (fun b hb => ?_)
  rw [e29, e0] at hb
  rcases hb with ⟨rfl, w1, w2⟩ | ⟨rfl, hw⟩
  case inr =>
    refine fl_Tq.zt rfl (fl_bo rfl) (by rw [at_c1]; rfl) rfl ?_
    refine fl_Tq.stp rfl rfl (fl_bo rfl) rfl ?_
    exact fl_Tq.ret rfl rfl rfl (k _ (Or.inr ⟨rfl, fun h => hw ⟨h.1, h.2.1⟩⟩))
  refine fl_Tq.zf rfl (fl_bo rfl) (by rw [at_c1]; rfl) rfl ?_
  obtain ⟨n, hn⟩ : ∃ n : Nat, w.toInt = n := ⟨w.toInt.toNat, by omega⟩
  have h3 : (Int32.ofInt 3 * w).toInt = ((3 * n : Nat) : Int) := by rw [at_mul32] <;> rw [e3, hn] <;> omega
  have h4 : (Int32.ofInt 3 * w + Int32.ofInt 1).toInt = ((3 * n + 1 : Nat) : Int) := by rw [at_add32] <;> rw [h3, e1] <;> omega
  have hb1 : ∀ j, m.1 278 j = (at_i0 278).getD j 0 := fun j => hX.2.2.2.2.2.2.2 278 j (Or.inl rfl)
  refine fl_Tq.stp rfl rfl (fl_bo rfl) rfl ?_
  refine fl_Tq.stp rfl rfl (fl_bo rfl) rfl ?_
  refine fl_Tq.stp rfl rfl (fl_bo rfl) rfl ?_
  refine fl_Tq.stp rfl rfl (fl_bo rfl) rfl ?_
  refine fl_Tq.stp rfl rfl (fl_bo rfl) rfl ?_
  refine fl_Tq.stp rfl rfl (fl_bo rfl) rfl ?_
  refine fl_Tq.ld (p := 278) (τ := 77) (n := 90) (z := (0, 0, 0)) (k := 3 * n) rfl (fl_bo rfl) rfl h3 (by omega) ?_
  refine fl_Tq.stp rfl rfl (fl_bo rfl) rfl ?_
  refine fl_Tq.stp rfl rfl (fl_bo rfl) rfl ?_
  refine fl_Tq.stp rfl rfl (fl_bo rfl) rfl ?_
  refine fl_Tq.stp rfl rfl (fl_bo rfl) rfl ?_
  refine fl_Tq.stp rfl rfl (fl_bo rfl) rfl ?_
  refine fl_Tq.stp rfl rfl (fl_bo rfl) rfl ?_
  refine fl_Tq.stp rfl rfl (fl_bo rfl) rfl ?_
  refine fl_Tq.ld (p := 278) (τ := 77) (n := 90) (z := (0, 0, 0)) (k := 3 * n + 1) rfl (fl_bo rfl) rfl h4 (by omega) ?_
  rw [hb1, hb1]
  refine fl_Tq.cal rfl rfl (fl_bo rfl) rfl ?_
  refine at_isin (fun b hb => ?_)
  have hn2 : w.toInt.toNat = n := by omega
  rcases hb with ⟨rfl, v1, v2⟩ | ⟨rfl, hv⟩
  · refine fl_Tq.zf rfl (fl_bo rfl) (by rw [at_c1]; rfl) rfl ?_
    refine fl_Tq.stp rfl rfl (fl_bo rfl) rfl ?_
    refine fl_Tq.stp rfl rfl (fl_bo rfl) rfl ?_
    exact fl_Tq.ret rfl rfl rfl (k _ (Or.inl ⟨rfl, w1, w2, by rw [hn2]; exact v1, by rw [hn2]; exact v2⟩))
  · refine fl_Tq.zt rfl (fl_bo rfl) (by rw [at_c1]; rfl) rfl ?_
    refine fl_Tq.stp rfl rfl (fl_bo rfl) rfl ?_
    exact fl_Tq.ret rfl rfl rfl (k _ (Or.inr ⟨rfl, fun h => hv (by have h3 := h.2.2; rw [hn2] at h3; exact h3)⟩))
/-- the class's keep -/
def at_cKeep : at_C := (20, [.inl (73, some 271), .inl (1, some 1)], [], none, false, [(4, false, 0, 29), (25, false, 5, 16), (27, false, 6, 8), (28, false, 0, 29), (29, false, 0, 2), (30, false, 0, 23), (31, false, 0, 11), (32, false, 0, 47), (33, false, 0, 39), (34, false, 3, 6), (35, false, 0, 10), (36, false, 0, 3), (37, false, 2, 3), (38, false, 0, 71), (40, false, 2, 3), (41, false, 0, 95), (42, false, 0, 18), (43, false, 2, 2), (44, false, 0, 31), (45, false, 0, 10), (46, false, 2, 3), (47, false, 0, 15), (48, false, 0, 15), (73, false, 1, 2), (74, false, 0, 19)])
set_option maxRecDepth 1000000 in
theorem at_cKeep_k : at_chk (at_CM ++ at_CA.take 1) at_JT 4000 at_cKeep = true := by decide +kernel
theorem at_x104 {w v : Int32} (hall : ∀ c ∈ at_CM ++ at_CA, at_Valid at_XI (pw_P L xs) c) (hg : at_Good at_XI m) (k : ∀ (b : Int32) (m' : fl_M), at_Good at_XI m' → (b = 1 ∧ at_sb w v) ∨ (b = 0 ∧ ¬ at_sb w v) → Q (some (.inl b)) m') : fl_Tq (pw_P L xs) 104 0 (fl_args (am_mxl (pw_P L xs) 104) [lx_x, .inl w, .inl v]) [] m Q := by
  have hV : at_Valid at_XI (pw_P L xs) at_cKeep := at_chk_ok at_XI_XX (fun m h => by have := h.h40; omega) (fun c hc => hall c (by
    rcases List.mem_append.mp hc with h | h
    · exact List.mem_append_left _ h
    · exact List.mem_append_right _ (List.mem_of_mem_take h))) at_cKeep_k
  refine fl_Tq.stp rfl rfl (fl_bo rfl) rfl ?_
  refine fl_Tq.stp rfl rfl (fl_bo rfl) rfl ?_
  refine fl_Tq.cal rfl rfl (fl_bo rfl) rfl ?_
  refine at_x174 (fun b hb => ?_)
  rcases hb with ⟨rfl, hs⟩ | ⟨rfl, hs⟩
  case inr =>
    refine fl_Tq.zf rfl (fl_bo rfl) (by rw [at_c1]; rfl) rfl ?_
    refine fl_Tq.stp rfl rfl (fl_bo rfl) rfl ?_
    exact fl_Tq.ret rfl rfl rfl (k _ m hg (Or.inr ⟨rfl, hs⟩))
  refine fl_Tq.zt rfl (fl_bo rfl) (by rw [at_c1]; rfl) rfl ?_
  refine fl_Tq.stp rfl rfl (fl_bo rfl) rfl ?_
  refine fl_Tq.stp rfl rfl (fl_bo rfl) rfl ?_
  refine fl_Tq.stp rfl rfl (fl_bo rfl) rfl ?_
  refine fl_Tq.stp rfl rfl (fl_bo rfl) rfl ?_
  refine fl_Tq.cal rfl rfl (fl_bo rfl) rfl ?_
  refine fl_Tq.mono (hV m [.inr (.inr (.inl (73, 271))), .inr (.inr (.inl (1, 1)))] hg ⟨⟨271, rfl, by decide +kernel, by unfold fl_N; omega, fun q h => by cases h; rfl⟩, ⟨1, rfl, by decide +kernel, by unfold fl_N; omega, fun q h => by cases h; rfl⟩, True.intro⟩ (fun q hq => by cases hq)) (fun vv m1 ⟨hg1, hm1, hv1⟩ => ?_)
  have hv1 : vv = none := hv1
  subst hv1
  obtain ⟨n, hn⟩ : ∃ n : Nat, w.toInt = n := ⟨w.toInt.toNat, by have := hs.1; omega⟩
  have hn30 : n < 30 := by have := hs.2.1; omega
  refine fl_Tq.stp rfl rfl (fl_bo rfl) rfl ?_
  refine fl_Tq.stp rfl rfl (fl_bo rfl) rfl ?_
  refine fl_Tq.stp rfl rfl (fl_bo rfl) rfl ?_
  refine fl_Tq.stp rfl rfl (fl_bo rfl) rfl ?_
  refine fl_Tq.stp rfl rfl (fl_bo rfl) rfl ?_
  refine fl_Tq.stp rfl rfl (fl_bo rfl) rfl ?_
  refine fl_Tq.sv (p := 4) (τ := 4) (n := 30) (z := (0, 0, 0)) (k := n) rfl (fl_bo rfl) rfl hn hn30 ?_
  refine fl_Tq.stp rfl rfl (fl_bo rfl) rfl ?_
  refine fl_Tq.ret rfl rfl rfl (k _ _ ?_ (Or.inl ⟨rfl, hs⟩))
  have ne : ∀ p j : Nat, p ≠ 4 → fl_up m1.1 4 n v p j = m1.1 p j := fun p j e => bl_un (fun h => absurd h e)
  have hX : at_XI (fl_up m1.1 4 n v, m1.2) := hg1.2.2.keep rfl (fun p j hp => ne p j (by unfold fl_N at hp; omega))
  have ew : ∀ j, at_w (fl_up m1.1 4 n v, m1.2) j = at_w m1 j := fun j => by
    show (fl_up m1.1 4 n v 280 j).toInt = _
    rw [ne 280 j (by decide)]
    rfl
  refine hg1.mk rfl hX (fun p j hp _ hne => ?_) (by rw [ew]; exact hg1.w0) (by rw [ew]; exact hg1.w1) (hg1.AK.congr (fun j _ _ => ew j))
  by_cases e : p = 4
  · subst e
    decide +kernel
  · exact absurd (ne p j e) hne
theorem at_m247 {w v : Int32} (hg : at_Good at_XI m) (k : ∀ (b : Int32) (m' : fl_M), at_Good at_XI m' → (b = 1 ∧ at_sb w v) ∨ (b = 0 ∧ ¬ at_sb w v) → Q (some (.inl b)) m') : fl_Tq (pw_P L xs) 247 0 (fl_args (am_mxl (pw_P L xs) 247) [at_this, .inl w, .inl v]) [] m Q := by
  refine fl_Tq.stp rfl rfl (fl_bo rfl) rfl ?_
  refine fl_Tq.stp rfl rfl (fl_bo rfl) rfl ?_
  refine fl_Tq.stp rfl rfl (fl_bo rfl) rfl ?_
  refine fl_Tq.cal rfl rfl (fl_bo rfl) rfl ?_
  refine at_m246 hg.2.2 (fun b hb => ?_)
  rcases hb with ⟨rfl, hs⟩ | ⟨rfl, hs⟩
  case inr =>
    refine fl_Tq.zf rfl (fl_bo rfl) (by rw [at_c1]; rfl) rfl ?_
    refine fl_Tq.stp rfl rfl (fl_bo rfl) rfl ?_
    exact fl_Tq.ret rfl rfl rfl (k _ m hg (Or.inr ⟨rfl, hs⟩))
  refine fl_Tq.zt rfl (fl_bo rfl) (by rw [at_c1]; rfl) rfl ?_
  refine fl_Tq.stp rfl rfl (fl_bo rfl) rfl ?_
  refine fl_Tq.cal rfl rfl (fl_bo rfl) rfl ?_
  refine fl_Tq.mono (at_v241 m [at_this] hg ⟨at_k277 _, True.intro⟩ (fun q hq => by cases hq)) (fun vv m1 ⟨hg1, hm1, hv1⟩ => ?_)
  have hv1 : vv = none := hv1
  subst hv1
  obtain ⟨n, hn⟩ : ∃ n : Nat, w.toInt = n := ⟨w.toInt.toNat, by have := hs.1; omega⟩
  have hn30 : n < 30 := by have := hs.2.1; omega
  have e34 : (Int8.ofInt 34).toInt32.toInt = 34 := by decide +kernel
  have ei : ((Int8.ofInt 34).toInt32 + w).toInt = ((34 + n : Nat) : Int) := by rw [at_add32] <;> rw [e34, hn] <;> omega
  refine fl_Tq.stp rfl rfl (fl_bo rfl) rfl ?_
  refine fl_Tq.stp rfl rfl (fl_bo rfl) rfl ?_
  refine fl_Tq.stp rfl rfl (fl_bo rfl) rfl ?_
  refine fl_Tq.stp rfl rfl (fl_bo rfl) rfl ?_
  refine fl_Tq.stp rfl rfl (fl_bo rfl) rfl ?_
  refine fl_Tq.stp rfl rfl (fl_bo rfl) rfl ?_
  refine fl_Tq.sv (p := 280) (τ := 79) (n := 29780) (z := (0, 0, 0)) (k := 34 + n) rfl (fl_bo rfl) rfl ei (by omega) ?_
  refine fl_Tq.stp rfl rfl (fl_bo rfl) rfl ?_
  refine fl_Tq.ret rfl rfl rfl (k _ _ ?_ (Or.inl ⟨rfl, hs⟩))
  obtain ⟨t1, t2, t3, t4⟩ := at_tab3 ⟨n, hn30⟩
  dsimp only at t3 t4
  have hn2 : w.toInt.toNat = n := by omega
  have hs3 := hs.2.2
  rw [hn2] at hs3
  have ne : ∀ p j : Nat, (p = 280 → j ≠ 34 + n) → fl_up m1.1 280 (34 + n) v p j = m1.1 p j := fun p j e => bl_un e
  have hX : at_XI (fl_up m1.1 280 (34 + n) v, m1.2) := hg1.2.2.keep rfl (fun p j hp => ne p j (fun e => by unfold fl_N at hp; omega))
  have ew : ∀ j, j ≠ 34 + n → at_w (fl_up m1.1 280 (34 + n) v, m1.2) j = at_w m1 j := fun j hj => by
    show (fl_up m1.1 280 (34 + n) v 280 j).toInt = _
    rw [ne 280 j (fun _ => hj)]
    rfl
  have ev : at_w (fl_up m1.1 280 (34 + n) v, m1.2) (34 + n) = v.toInt := by
    show (fl_up m1.1 280 (34 + n) v 280 (34 + n)).toInt = _
    rw [bl_ue]
  obtain ⟨a1, a2, a3⟩ := hg1.AK
  refine hg1.mk rfl hX (fun p j hp _ hne => absurd (ne p j (fun e => absurd e hp)) hne) (by rw [ew 0 (by omega)]; exact hg1.w0) (by rw [ew 1 (by omega)]; exact hg1.w1) ⟨fun r hr j hj hm => ?_, fun c hc hl => ?_, fun kk hkk => ?_⟩
  · by_cases e : j = 34 + n
    · subst e
      have h1 := List.all_eq_true.mp at_rg34 n (List.mem_range.mpr hn30)
      have h2 := List.all_eq_true.mp h1 r hr
      have ec : (34 + (n : Int)) = ((34 + n : Nat) : Int) := by omega
      rw [ec, at_memb_ok hm] at h2
      have h3 := of_decide_eq_true (show decide (r = (0, 34, 0, 1, 30, -99999, 99999)) = true by simpa using h2)
      subst h3
      rw [ev]
      exact ⟨by show (-99999 : Int) ≤ _; omega, by show _ ≤ (99999 : Int); omega⟩
    · rw [ew j e]
      exact a1 r hr j hj hm
  · rw [ew 2 (by omega)] at hl
    rw [ew (444 + 61 * c) (by omega), ew (450 + 61 * c) (by omega), ew (454 + 61 * c) (by omega), ew (445 + 61 * c) (by omega)]
    exact a2 c hc hl
  · rw [ew (341 + 35 * kk) (by omega), ew 2 (by omega)]
    exact a3 kk hkk
set_option maxRecDepth 1000000 in
theorem lx_l30 : am_cl nw_P0 0 (.invokevirtual 30) = some (247, 3) := by decide +kernel
/-- case 3 -/
theorem lx_c3 {i : Nat} (hall : ∀ c ∈ at_CM ++ at_CA, at_Valid at_XI (pw_P L xs) c) (hL : L ≤ 3072) (hi : i + 6 ≤ L) (hg : at_Good at_XI m) (kk : ∀ m' : fl_M, at_Good at_XI m' → fl_Tq (pw_P L xs) 0 2030 (lx_lv i) [] m' Q) : fl_Tq (pw_P L xs) 0 429 (lx_lv i) [] m Q := by
  refine fl_Tq.stp (pw_cod lx_k429) rfl (fl_bo rfl) rfl ?_
  refine lx_arg (i := i) (jn := 1) (pw_cod lx_k430) (pw_cod lx_k431) (pw_cod lx_k432) (pw_cod lx_k433) (pw_cod lx_k434) rfl (fl_bo rfl) hL (by omega) ?_
  refine lx_arg (i := i) (jn := 2) (pw_cod lx_k435) (pw_cod lx_k436) (pw_cod lx_k437) (pw_cod lx_k438) (pw_cod lx_k439) rfl (fl_bo rfl) hL (by omega) ?_
  refine fl_Tq.cal (mj := 104) (n := 3) (pw_cod lx_k440) (pw_cll lx_l27) (fl_bo rfl) rfl ?_
  refine at_x104 hall hg (fun b m1 hg1 hb => ?_)
  refine fl_Tq.stp (pw_cod lx_k443) rfl (fl_bo rfl) rfl ?_
  refine lx_arg (i := i) (jn := 1) (pw_cod lx_k444) (pw_cod lx_k445) (pw_cod lx_k446) (pw_cod lx_k447) (pw_cod lx_k448) rfl (fl_bo rfl) hL (by omega) ?_
  refine lx_arg (i := i) (jn := 2) (pw_cod lx_k449) (pw_cod lx_k450) (pw_cod lx_k451) (pw_cod lx_k452) (pw_cod lx_k453) rfl (fl_bo rfl) hL (by omega) ?_
  refine fl_Tq.cal (mj := 247) (n := 3) (pw_cod lx_k454) (pw_cll lx_l30) (fl_bo rfl) rfl ?_
  refine at_m247 hg1 (fun b2 m2 hg2 hb2 => ?_)
  have e : b = b2 := by
    rcases hb with ⟨rfl, h1⟩ | ⟨rfl, h1⟩ <;> rcases hb2 with ⟨rfl, h2⟩ | ⟨rfl, h2⟩ <;> first | rfl | exact absurd h1 h2 | exact absurd h2 h1
  subst e
  refine fl_Tq.jt (pw_cod lx_k457) (fl_bo rfl) ?_ rfl ?_
  · rw [at_c2]
    exact decide_eq_true (by omega)
  exact kk m2 hg2
end ATSE
