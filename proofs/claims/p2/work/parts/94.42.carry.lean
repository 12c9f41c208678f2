/-! ===== block 0: the relation goes over where the words are the same ===== -/
section C0CARRY
variable {F G fr : t2_F} {n : Nat}
theorem c0_I.same (h : c0_I F fr) (e : t2_same (fun o => G (1 + o)) (fun o => F (1 + o)) (fr 280 2).toInt.toNat) (h13 : G 13 0 = (24 : Int32)) (h16 : G 16 0 = (32 : Int32)) : c0_I G fr := by
  have cn := h.cnt
  obtain ⟨⟨⟨g5, g6, g7, g8⟩, ⟨g9, g10, g11, g12⟩, g13, g14, g15, g16⟩, rs, ⟨⟨rk, ⟨z1, z2, z3⟩, ⟨u1, u2, u3⟩, pr, pc, pw⟩, ⟨⟨w3, w4, w5, w6⟩, wh, wc, ⟨b1, b2, b3, b4, b5⟩⟩, ⟨t1, t2, t3, t4, t5⟩, gm⟩, cl, ok⟩ := h
  obtain ⟨e1, ⟨⟨e26, e27, e28⟩, e3, e4, e5, e6, e7, e8⟩, ⟨⟨e93, e94, e95, e96⟩, e10, e11, ⟨e122, e123⟩, e13⟩, ⟨⟨e152, e153⟩, e16⟩, ec, em⟩ := e
  have E1 : ∀ w : Nat, 5 ≤ w → w ≤ 16 → G 1 w = F 1 w := e1
  have E26 : G 3 6 = F 3 6 := e26
  have E27 : G 3 7 = F 3 7 := e27
  have E28 : G 3 8 = F 3 8 := e28
  have E3 : ∀ w : Nat, w < 30 → G 4 w = F 4 w := e3
  have E4 : ∀ w : Nat, w < 3 → G 5 w = F 5 w := e4
  have E5 : ∀ w : Nat, w < 24 → G 6 w = F 6 w := e5
  have E6 : ∀ w : Nat, w < 12 → G 7 w = F 7 w := e6
  have E7 : ∀ w : Nat, w < 48 → G 8 w = F 8 w := e7
  have E8 : ∀ w : Nat, w < 40 → G 9 w = F 9 w := e8
  have E93 : G 10 3 = F 10 3 := e93
  have E94 : G 10 4 = F 10 4 := e94
  have E95 : G 10 5 = F 10 5 := e95
  have E96 : G 10 6 = F 10 6 := e96
  have E10 : ∀ w : Nat, w < 11 → G 11 w = F 11 w := e10
  have E11 : ∀ w : Nat, w < 4 → G 12 w = F 12 w := e11
  have E122 : G 13 2 = F 13 2 := e122
  have E123 : G 13 3 = F 13 3 := e123
  have E13 : ∀ w : Nat, w < 72 → G 14 w = F 14 w := e13
  have E152 : G 16 2 = F 16 2 := e152
  have E153 : G 16 3 = F 16 3 := e153
  have E16 : ∀ w : Nat, w < 96 → G 17 w = F 17 w := e16
  have PL : ∀ m a i : Nat, a < m → i < m → t2_pl m a i < m := fun m a i h1 h2 => by
    unfold t2_pl
    split <;> omega
  have n19 := ok.2.2.2.2.2.1.1
  refine ⟨⟨⟨?_, ?_, ?_, ?_⟩, ⟨?_, ?_, ?_, ?_⟩, ?_, ?_, ?_, ?_⟩, fun k hk => by rw [E3 k hk]; exact rs k hk, ⟨⟨fun k hk => by rw [E4 k hk]; exact rk k hk, ⟨by rw [E26]; exact z1, fun k hk => by rw [E6 k hk]; exact z2 k hk, z3⟩, ⟨by rw [E28]; exact u1, u2, fun j hj => by rw [E8 j (by omega)]; exact u3 j hj⟩, fun k hk => by rw [E5 k hk]; exact pr k hk, by rw [E27]; exact pc, fun j hj => by rw [E7 j (by omega)]; exact pw j hj⟩, ⟨⟨by rw [E93]; exact w3, by rw [E94]; exact w4, by rw [E95]; exact w5, by rw [E96]; exact w6⟩, fun j hj => by rw [E10 j hj]; exact wh j hj, fun j hj => by rw [E11 j hj]; exact wc j hj, ⟨h13, by rw [E122]; exact b2, by rw [E123]; exact b3, b4, fun i hi => ?_⟩⟩, ⟨h16, by rw [E152]; exact t2, by rw [E153]; exact t3, t4, fun i hi => ?_⟩, fun m hm => ?_⟩, fun C hC => ?_, ok⟩
  · rw [E1 5 (by decide) (by decide), g5]
  · rw [E1 6 (by decide) (by decide), g6]
  · rw [E1 7 (by decide) (by decide), g7]
  · rw [E1 8 (by decide) (by decide), g8]
  · rw [E1 9 (by decide) (by decide), g9]
  · rw [E1 10 (by decide) (by decide), g10]
  · rw [E1 11 (by decide) (by decide), g11]
  · rw [E1 12 (by decide) (by decide), g12]
  · rw [E1 13 (by decide) (by decide), g13]
  · rw [E1 14 (by decide) (by decide), g14]
  · rw [E1 15 (by decide) (by decide), g15]
  · rw [E1 16 (by decide) (by decide), g16]
  · have p := PL 24 (F 13 2).toInt.toNat i (by omega) (by omega)
    rw [E122, E13 _ (by omega), E13 _ (by omega)]
    exact b5 i hi
  · have p := PL 32 (F 16 2).toInt.toNat i (by omega) (by omega)
    rw [E152, E16 _ (by omega), E16 _ (by omega)]
    exact t5 i hi
  · obtain ⟨m1, m2, m3, m4⟩ := gm m hm
    obtain ⟨⟨f2, f3⟩, f4, f5⟩ := em m hm
    have F2 : G (1 + (81 + 3 * m)) 2 = F (1 + (81 + 3 * m)) 2 := f2
    have F3 : G (1 + (81 + 3 * m)) 3 = F (1 + (81 + 3 * m)) 3 := f3
    have F4 : ∀ w : Nat, w < 16 → G (1 + (81 + 3 * m + 1)) w = F (1 + (81 + 3 * m + 1)) w := f4
    have F5 : ∀ w : Nat, w < 16 → G (1 + (81 + 3 * m + 2)) w = F (1 + (81 + 3 * m + 2)) w := f5
    rw [show 1 + (81 + 3 * m) = 82 + 3 * m by omega] at F2 F3
    rw [show 1 + (81 + 3 * m + 1) = 83 + 3 * m by omega] at F4
    rw [show 1 + (81 + 3 * m + 2) = 84 + 3 * m by omega] at F5
    refine ⟨by rw [F2]; exact m1, m2, fun q => ⟨(m3 q).1, by rw [F3]; exact (m3 q).2⟩, fun c hc => ?_⟩
    rw [F4 c (by omega), F5 c (by omega)]
    exact m4 c hc
  · have hC' : C < (fr 280 2).toInt.toNat := by omega
    obtain ⟨ra, ⟨m1, m2, m3, m4⟩, ⟨d1, d2⟩, rh, ⟨i1, i2, i3, i4⟩⟩ := cl C hC
    obtain ⟨f1, f2, f3, f4⟩ := ec C hC'
    have F1 : ∀ w : Nat, w < 19 → G (1 + (17 + 4 * C)) w = F (1 + (17 + 4 * C)) w := f1
    have F2 : G (1 + (17 + 4 * C + 1)) 2 = F (1 + (17 + 4 * C + 1)) 2 := f2
    have F3 : ∀ w : Nat, w < 32 → G (1 + (17 + 4 * C + 2)) w = F (1 + (17 + 4 * C + 2)) w := f3
    have F4 : ∀ w : Nat, w < 11 → G (1 + (17 + 4 * C + 3)) w = F (1 + (17 + 4 * C + 3)) w := f4
    rw [show 1 + (17 + 4 * C) = 18 + 4 * C by omega] at F1
    rw [show 1 + (17 + 4 * C + 1) = 19 + 4 * C by omega] at F2
    rw [show 1 + (17 + 4 * C + 2) = 20 + 4 * C by omega] at F3
    rw [show 1 + (17 + 4 * C + 3) = 21 + 4 * C by omega] at F4
    refine ⟨ra.c18 (fun j hj => F1 j (by omega)) (by rw [F1 18 (by decide)]; exact ra.2.2.2.2.2) (fun w _ => rfl), ⟨?_, ?_, ?_, ?_⟩, ⟨?_, fun q => ?_⟩, ?_, ⟨?_, fun i hi => ?_, fun k hk => ?_, i4⟩⟩
    · rw [F1 14 (by decide), m1]
    · rw [F1 15 (by decide), m2]
    · rw [F1 16 (by decide), m3]
    · rw [F1 17 (by decide), m4]
    · rw [F1 10 (by decide), d1]
    · rw [F1 11 (by decide), d2 q]
    · unfold c0_Rh
      rw [F1 10 (by decide), F1 12 (by decide), F1 13 (by decide)]
      exact rh
    · rw [F2, i1]
    · have := i4.1
      rw [F3 i (by omega)]
      exact i2 i hi
    · rw [F4 k hk]
      exact i3 k hk
end C0CARRY
