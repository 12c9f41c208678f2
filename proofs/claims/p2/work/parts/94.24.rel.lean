/-! ===== block 0: THE RELATION ===== -/
section C0REL
variable {fc fr fc' fr' : t2_F} {C : Nat}
/-- what is told: contactors, zones, rules, prices, pieces -/
def c0_GT (fc fr : t2_F) : Prop := c0_Rk fc fr ∧ c0_Rz fc fr ∧ c0_Rr fc fr ∧ (∀ k : Nat, k < 24 → fc 6 k = fr 280 (315 + k)) ∧ fc 3 7 = fr 280 19 ∧ ∀ j : Nat, (j : Int) < 2 * (fr 280 19).toInt → fc 8 j = fr 280 (119 + j)
theorem c0_GT.congr (h : c0_GT fc fr) (hn : (fr 280 19).toInt ≤ 24) (e3 : fc' 3 = fc 3) (e5 : fc' 5 = fc 5) (e6 : fc' 6 = fc 6) (e7 : fc' 7 = fc 7) (e8 : fc' 8 = fc 8) (e9 : fc' 9 = fc 9) (e : ∀ w : Nat, ((17 ≤ w ∧ w ≤ 19) ∨ (64 ≤ w ∧ w < 167) ∨ (315 ≤ w ∧ w < 339)) → fr' 280 w = fr 280 w) : c0_GT fc' fr' := by
  obtain ⟨h1, h2, h3, h4, h5, h6⟩ := h
  refine ⟨h1.congr e5 (fun k hk => e _ (by omega)), h2.congr e3 e7 (e _ (by omega)) (fun k hk => e _ (by omega)), ?_, fun k hk => ?_, ?_, fun j hj => ?_⟩
  · obtain ⟨a, b, d⟩ := h3
    unfold c0_Rr
    rw [e3, e9, e 18 (by omega)]
    exact ⟨a, b, fun j hj => by rw [e _ (by omega)]; exact d j hj⟩
  · rw [e6, e _ (by omega)]
    exact h4 k hk
  · rw [e3, e 19 (by omega)]
    exact h5
  · rw [e 19 (by omega)] at hj
    rw [e8, e _ (by omega)]
    exact h6 j hj
/-- the watch -/
def c0_GW (fc fr : t2_F) : Prop := (fc 10 3 = fr 280 6 ∧ fc 10 4 = fr 280 22 ∧ fc 10 5 = fr 280 15 ∧ ((fc 10 6).toInt = min (fr 280 16).toInt 1 ∧ 0 ≤ (fr 280 16).toInt ∧ (fr 280 16).toInt ≤ 2)) ∧ (∀ j : Nat, j < 11 → fc 11 j = fr 280 (23 + j)) ∧ (∀ j : Nat, j < 4 → fc 12 j = fr 280 (311 + j)) ∧ c0_Bk fc fr
theorem c0_GW.congr (h : c0_GW fc fr) (e10 : fc' 10 = fc 10) (e11 : fc' 11 = fc 11) (e12 : fc' 12 = fc 12) (e13 : fc' 13 = fc 13) (e14 : fc' 14 = fc 14) (e : ∀ w : Nat, (w = 6 ∨ w = 15 ∨ w = 16 ∨ w = 20 ∨ (22 ≤ w ∧ w < 34) ∨ (167 ≤ w ∧ w < 215) ∨ (311 ≤ w ∧ w < 315)) → fr' 280 w = fr 280 w) : c0_GW fc' fr' := by
  obtain ⟨h1, h2, h3, h4⟩ := h
  refine ⟨?_, fun j hj => ?_, fun j hj => ?_, h4.congr e13 e14 (fun w hw => e w (by omega))⟩
  · rw [e10, e 6 (by omega), e 22 (by omega), e 15 (by omega), e 16 (by omega)]
    exact h1
  · rw [e11, e _ (by omega)]
    exact h2 j hj
  · rw [e12, e _ (by omega)]
    exact h3 j hj
/-- marks -/
def c0_GM (fc fr : t2_F) : Prop := ∀ m : Nat, m < 3 → fc (82 + 3 * m) 2 = fr 280 (339 + 35 * m + 2) ∧ (0 ≤ (fr 280 (339 + 35 * m + 2)).toInt ∧ (fr 280 (339 + 35 * m + 2)).toInt ≤ 16) ∧ (0 < (fr 280 (339 + 35 * m + 2)).toInt → fr 280 (339 + 35 * m) = 1 ∧ fc (82 + 3 * m) 3 = fr 280 (339 + 35 * m + 1)) ∧ ∀ c : Nat, (c : Int) < (fr 280 (339 + 35 * m + 2)).toInt → fc (83 + 3 * m) c = fr 280 (339 + 35 * m + 3 + c) ∧ fc (84 + 3 * m) c = fr 280 (339 + 35 * m + 19 + c)
theorem c0_GM.congr (h : c0_GM fc fr) (ep : ∀ p : Nat, (82 ≤ p ∧ p < 91) → fc' p = fc p) (e : ∀ w : Nat, (339 ≤ w ∧ w < 444) → fr' 280 w = fr 280 w) : c0_GM fc' fr' := by
  intro m hm
  obtain ⟨h1, h2, h3, h4⟩ := h m hm
  rw [ep _ (by omega), ep _ (by omega), ep _ (by omega), e _ (by omega), e _ (by omega), e _ (by omega)]
  exact ⟨h1, h2, h3, fun c hc => by rw [e _ (by omega), e _ (by omega)]; exact h4 c hc⟩
/-- a cell beside what Rc says -/
def c0_GC (fc fr : t2_F) (C : Nat) : Prop := c0_Rm fc fr C ∧ (fc (18 + 4 * C) 10 = fr 280 (444 + 61 * C + 15) ∧ (fr 280 (444 + 61 * C + 15) = 1 → fc (18 + 4 * C) 11 = fr 280 (444 + 61 * C + 14))) ∧ c0_Rh fc fr C ∧ c0_TI fc fr C
theorem c0_GC.congr (h : c0_GC fc fr C) (e1 : ∀ j : Nat, 10 ≤ j → j < 18 → fc' (18 + 4 * C) j = fc (18 + 4 * C) j) (ep : ∀ p : Nat, (p = 19 + 4 * C ∨ p = 20 + 4 * C ∨ p = 21 + 4 * C) → fc' p = fc p) (e : ∀ w : Nat, (w = 7 ∨ w = 8 ∨ (10 ≤ w ∧ w < 60)) → fr' 280 (444 + 61 * C + w) = fr 280 (444 + 61 * C + w)) : c0_GC fc' fr' C := by
  obtain ⟨⟨a1, a2, a3, a4⟩, ⟨b1, b2⟩, hr, ht⟩ := h
  refine ⟨⟨?_, ?_, ?_, ?_⟩, ⟨?_, fun q => ?_⟩, ?_, ht.congr (ep _ (by omega)) (ep _ (by omega)) (ep _ (by omega)) (fun w h1 h2 _ _ _ _ _ _ => ?_)⟩
  · rw [e1 14 (by decide) (by decide), e 11 (by omega), a1]
  · rw [e1 15 (by decide) (by decide), e 12 (by omega), a2]
  · rw [e1 16 (by decide) (by decide), e 13 (by omega), a3]
  · rw [e1 17 (by decide) (by decide), e 16 (by omega), a4]
  · rw [e1 10 (by decide) (by decide), e 15 (by omega), b1]
  · rw [e 15 (by omega)] at q
    rw [e1 11 (by decide) (by decide), e 14 (by omega), b2 q]
  · unfold c0_Rh
    rw [e1 10 (by decide) (by decide), e1 12 (by decide) (by decide), e1 13 (by decide) (by decide), e 7 (by omega), e 8 (by omega)]
    exact hr
  · exact e w (by omega)
/-- scalars -/
def c0_GS (fc fr : t2_F) : Prop := (fc 1 5 = fr 280 2 ∧ fc 1 6 = fr 280 7 ∧ fc 1 7 = fr 280 3 ∧ fc 1 8 = fr 280 4) ∧ (fc 1 9 = fr 280 5 ∧ fc 1 10 = fr 280 14 ∧ fc 1 11 = fr 280 8 ∧ fc 1 12 = fr 280 9) ∧ fc 1 13 = fr 280 10 ∧ fc 1 14 = fr 280 11 ∧ fc 1 15 = fr 280 12 ∧ fc 1 16 = fr 280 13
/-- THE RELATION of a state of the class and a row of the reference -/
def c0_R (fc fr : t2_F) : Prop := c0_GS fc fr ∧ c0_Rs fc fr ∧ c0_GT fc fr ∧ c0_GW fc fr ∧ c0_Tr fc fr ∧ c0_GM fc fr ∧ ∀ C : Nat, (C : Int) < (fr 280 2).toInt → c0_Rc fc fr C ∧ c0_GC fc fr C
end C0REL
