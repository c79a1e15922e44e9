/-! town -/
def tZ (T : Tw) : Tw := fun a k => if a = 0 ∧ k ≤ 2 then 0 else T a k
def sZ : Tw := fun _ _ => 0
theorem tZ_0 (T : Tw) {k : Nat} (h : k ≤ 2) : tZ T 0 k = 0 := if_pos ⟨rfl, h⟩
theorem tZ_n (T : Tw) {a k : Nat} (h : a ≠ 0 ∨ 2 < k) : tZ T a k = T a k := if_neg (by omega)
theorem tZ_iv {T : Tw} (hI : InvT T) : Iv (tZ T) sZ := by
  have z0 := tZ_0 T (k := 0) (by omega)
  have z1 := tZ_0 T (k := 1) (by omega)
  have z2 := tZ_0 T (k := 2) (by omega)
  refine ⟨⟨⟨by omega, by omega, by omega⟩, fun x h0 hx => by omega, fun x h0 hx => by omega, ?_, fun w hw => by omega⟩, ⟨fun x h0 hx => by omega, fun x h0 hx => by omega, fun x h0 hx => by omega, fun x h0 hx => by omega, ⟨Int.le_refl 0, Int.le_refl 0⟩, by omega⟩, fun x h0 hx => by omega, rfl⟩
  rw [tZ_n T (by omega), tZ_n T (by omega), tZ_n T (by omega), tZ_n T (by omega)]
  exact hI.2.2.2.1
section PB1
variable {M : Mm} {b : Nat → Int} {tl n N : Nat} {T : Tw}
theorem c_town (hX : CX M b tl) (hT : CT M 100 T) (hI : InvT T) (hN : N ≤ 240) (h1 : ∀ k, k < N → goOn b tl (rho b tl (tZ T) sZ k)) (h2 : ¬ goOn b tl (rho b tl (tZ T) sZ N)) : p_X7_town M ∧
    (∀ p, rho b tl (tZ T) sZ N = .inl p → r_X7_town M = -100 - iI (p : Int) ∧ (w_X7_town M).1 500 1 = 0 ∧ Fq (fun a k => a = 500 ∨ (300 ≤ a ∧ a ≤ 315) ∨ (1020 ≤ a ∧ a ≤ 1024 ∧ (a = 1020 → k = 4))) M (w_X7_town M)) ∧
    (∀ e T' S', rho b tl (tZ T) sZ N = .inr (e, T', S') → r_X7_town M = iI (T' 0 2) ∧ (CT (w_X7_town M) 100 T' ∧ CSt (w_X7_town M) 1000 T' S' ∧ (w_X7_town M).1 1000 5 = M.1 1020 5 ∧ (w_X7_town M).1 1 8 = 0 ∧ (w_X7_town M).1 500 1 = 0) ∧ Fq (fun a k => a = 500 ∨ (300 ≤ a ∧ a ≤ 315) ∨ (1020 ≤ a ∧ a ≤ 1024 ∧ (a = 1020 → k = 4)) ∨ (a = 100 ∧ k < 3) ∨ a = 101 ∨ a = 102 ∨ a = 104 ∨ (110 ≤ a ∧ a ≤ 115) ∨ (1000 ≤ a ∧ a ≤ 1004) ∨ (a = 1 ∧ k = 8)) M (w_X7_town M)) := by
  have hv := tZ_iv hI
  unfold p_X7_town r_X7_town w_X7_town p_X7_town_7 r_X7_town_7 w_X7_town_7
  obtain ⟨M2, hM2⟩ : ∃ M2, M2 = w_X5_takeLaws_300_100 (w_X5_clear_300 M) := ⟨_, rfl⟩
  rw [← hM2]
  have rd2 : ∀ a k, ¬ (a = 304 ∧ k < 4) → M2.1 a k = (w_X5_clear_300 M).1 a k := fun a k hk => by
    rw [hM2]
    unfold w_X5_takeLaws_300_100
    rw [cpi_r, if_neg hk]
  have lw : ∀ k, k < 4 → M2.1 304 k = iI (T 3 k) := fun k hk => by
    rw [hM2]
    unfold w_X5_takeLaws_300_100 w_X5_clear_300
    rw [cpi_r, if_pos ⟨rfl, hk⟩, rd_ne (Or.inl (by omega)), rd_ne (Or.inl (by omega)), rd_ne (Or.inl (by omega)), rd_ne (Or.inl (by omega))]
    exact hT.2.2.2.1 k hk
  have Fc : Fq (fun a k => (a = 300 ∧ k ≤ 2) ∨ (a = 1020 ∧ k = 4)) M (w_X5_clear_300 M) := by
    unfold w_X5_clear_300
    exact Fq.wi (Fq.wi (Fq.wi (Fq.wi Fq.rf (by omega)) (by omega)) (by omega)) (by omega)
  have F2 : Fq (fun a k => (300 ≤ a ∧ a ≤ 304) ∨ (a = 1020 ∧ k = 4)) M M2 := ⟨fun a k hk => by rw [rd2 a k (by omega)]; exact Fc.1 a k (by omega), fun a k hk => by rw [hM2]; exact Fc.2 a k hk⟩
  have q0 : M2.1 300 0 = 0 := by
    rw [rd2 _ _ (by omega)]
    unfold w_X5_clear_300
    rw [rd_ne (Or.inl (by omega)), rd_ne (Or.inr (by omega)), rd_ne (Or.inr (by omega)), rd_same]
  have q1 : M2.1 300 1 = 0 := by
    rw [rd2 _ _ (by omega)]
    unfold w_X5_clear_300
    rw [rd_ne (Or.inl (by omega)), rd_ne (Or.inr (by omega)), rd_same]
  have q2 : M2.1 300 2 = 0 := by
    rw [rd2 _ _ (by omega)]
    unfold w_X5_clear_300
    rw [rd_ne (Or.inl (by omega)), rd_same]
  have q4 : M2.1 1020 4 = 0 := by
    rw [rd2 _ _ (by omega)]
    unfold w_X5_clear_300
    rw [rd_same]
  clear hM2 rd2 Fc
  have z0 := tZ_0 T (k := 0) (by omega)
  have z1 := tZ_0 T (k := 1) (by omega)
  have z2 := tZ_0 T (k := 2) (by omega)
  have dd : CDr M2 (tZ T) sZ := by
    refine ⟨⟨⟨by rw [z0]; exact q0, by rw [z1]; exact q1, by rw [z2]; exact q2⟩, fun x h0 hx => by omega, fun x h0 hx => by omega, fun k hk => ?_, fun w f hw hf => by omega⟩, ⟨fun x h0 hx => by omega, fun x h0 hx => by omega, fun x h0 hx => by omega, fun x h0 hx => by omega, q4⟩⟩
    rw [tZ_n T (by omega)]
    exact lw k hk
  obtain ⟨y1, y2, y3, y4⟩ := c_into (hX.fq F2 (by omega) (fun k => by omega)) dd hv hN h1 h2
  unfold p_X7_town_18 r_X7_town_18 w_X7_town_18
  rw [y2]
  generalize w_X4_readInto M2 = D at y3 y4 ⊢
  have FD : Fq (fun a k => a = 500 ∨ (300 ≤ a ∧ a ≤ 315) ∨ (1020 ≤ a ∧ a ≤ 1024 ∧ (a = 1020 → k = 4))) M D := (F2.mono (fun a k u => by omega)).tr (y4.mono (fun a k u => by omega))
  have FE : Fq (fun a k => a = 500 ∨ (300 ≤ a ∧ a ≤ 315) ∨ (1020 ≤ a ∧ a ≤ 1024 ∧ (a = 1020 → k = 4))) M (wi D 500 1 0) := FD.wi (Or.inl rfl)
  unfold p_X7_town_30 r_X7_town_30 w_X7_town_30
  cases hr : rho b tl (tZ T) sZ N with
  | inl p =>
    rw [hr] at y3
    have g : CF D b tl p := y3
    rw [if_neg g.nlt, if_neg g.nlt, if_neg g.nlt]
    refine ⟨⟨y1, trivial⟩, fun p' e' => ?_, fun e T' S' e' => by cases e'⟩
    cases e'
    rw [g.2.2]
    exact ⟨rfl, rd_same .., FE⟩
  | inr q =>
    obtain ⟨e, T', S'⟩ := q
    rw [hr] at y3
    obtain ⟨g, d1⟩ := y3
    have gd := gd_rho (b := b) (tl := tl) hv N h1
    rw [hr] at gd
    obtain ⟨-, -, hv', -⟩ := gd
    have hc := hv'.1.1
    have m1 : D.1 500 5 < 0 := by rw [g.2.2.2]; decide
    rw [if_pos m1, if_pos m1, if_pos m1]
    have d2 : CDr (wi D 500 1 0) T' S' := d1.fq hv'.1 (Fq.wi (Q := fun a _ => a = 500) Fq.rf rfl) (fun a k u => by omega)
    have d5 : (wi D 500 1 0).1 500 1 = 0 := rd_same ..
    unfold p_X7_town_47 r_X7_town_47 w_X7_town_47 r_X7_town_58 w_X7_town_58
    generalize wi D 500 1 0 = E at d2 FE d5 ⊢
    obtain ⟨t0, t1, t2, t3, t4, t5, ⟨s1, s2, s3, s4, s5, s6⟩, tF⟩ := tT_100_300 (M := E)
    generalize w_X5_takeTown_100_300 E = W at t1 t2 t3 t4 t5 s1 s2 s3 s4 s5 s6 tF ⊢
    obtain ⟨⟨⟨c0, c1, c2⟩, c3, c4, c5, c6⟩, ⟨u0, u1, u2, u3, u4⟩⟩ := d2
    have FW : Fq (fun a k => a = 500 ∨ (300 ≤ a ∧ a ≤ 315) ∨ (1020 ≤ a ∧ a ≤ 1024 ∧ (a = 1020 → k = 4)) ∨ (a = 100 ∧ k < 3) ∨ a = 101 ∨ a = 102 ∨ a = 104 ∨ (110 ≤ a ∧ a ≤ 115) ∨ (1000 ≤ a ∧ a ≤ 1004) ∨ (a = 1 ∧ k = 8)) M (wi W 1 8 0) := ((FE.mono (fun a k u => by omega)).tr ((tF.q (fun a k u => by omega)).mono (fun a k u => by omega))).wi (by omega)
    have ne : ∀ a k, a ≠ 1 → (wi W 1 8 0).1 a k = W.1 a k := fun a k h => rd_ne (Or.inl h)
    refine ⟨⟨y1, t0, trivial⟩, fun p' e' => (by cases e'), fun e' T1 S1 e1 => ?_⟩
    cases e1
    refine ⟨?_, ⟨⟨⟨?_, ?_, ?_⟩, fun x h0 hx => ?_, fun x h0 hx => ?_, fun k hk => ?_, fun w f hw hf => ?_⟩, ⟨fun x h0 hx => ?_, fun x h0 hx => ?_, fun x h0 hx => ?_, fun x h0 hx => ?_, ?_⟩, ?_, rd_same .., ?_⟩, FW⟩
    · rw [ne _ _ (by omega), t1 2 (by omega)]; exact c2
    · rw [ne _ _ (by omega), t1 0 (by omega)]; exact c0
    · rw [ne _ _ (by omega), t1 1 (by omega)]; exact c1
    · rw [ne _ _ (by omega), t1 2 (by omega)]; exact c2
    · rw [ne _ _ (by omega)]; exact (t2 _ (by omega)).trans (c3 x h0 hx)
    · rw [ne _ _ (by omega)]; exact (t3 _ (by omega)).trans (c4 x h0 hx)
    · rw [ne _ _ (by omega)]; exact (t4 _ (by omega)).trans (c5 k hk)
    · rw [ne _ _ (by omega)]; exact (t5 w f (by omega) hf).trans (c6 w f hw hf)
    · rw [ne _ _ (by omega)]; exact (s1 _ (by omega)).trans (u0 x h0 hx)
    · rw [ne _ _ (by omega)]; exact (s2 _ (by omega)).trans (u1 x h0 hx)
    · rw [ne _ _ (by omega)]; exact (s3 _ (by omega)).trans (u2 x h0 hx)
    · rw [ne _ _ (by omega)]; exact (s4 _ (by omega)).trans (u3 x h0 hx)
    · rw [ne _ _ (by omega)]; exact s5.trans u4
    · rw [ne _ _ (by omega), s6, FE.1 _ _ (by omega)]
    · rw [ne _ _ (by omega), (tF _ _ (by omega)).1]; exact d5
theorem t27 : ∃ D, (∀ k, k < 4 → c_X8_town_27 (l_X8_town_27 (M, 0) k)) ∧ (∀ k, k < 4 → q_X8_town_27 (l_X8_town_27 (M, 0) k)) ∧ ¬ c_X8_town_27 (l_X8_town_27 (M, 0) 4) ∧ l_X8_town_27 (M, 0) 4 = (D, iI ((4 : Nat) : Int)) ∧ (∀ j, j < 4 → D.1 613 j = M.1 604 j) ∧ Fq (fun a _ => a = 613) M D := by
  have one : ∀ (k : Nat) (D : Mm), k < 4 → ((∀ j, j < k → D.1 613 j = M.1 604 j) ∧ Fq (fun a _ => a = 613) M D) → (c_X8_town_27 (D, iI (k : Int)) ∧ q_X8_town_27 (D, iI (k : Int))) ∧ s_X8_town_27 (D, iI (k : Int)) = (wi D 613 k (D.1 604 k), iI ((k + 1 : Nat) : Int)) := by
    intro k D hk hP
    have nk : Int32.toNatClampNeg (iI (k : Int)) = k := natk rfl (by omega)
    unfold c_X8_town_27 q_X8_town_27 s_X8_town_27
    dsimp only
    have ng : ¬ (4 : Int32) ≤ iI (k : Int) := by rw [cl4, iI_le (by omega) (by omega) (by omega) (by omega)]; omega
    rw [if_neg ng, if_neg ng, if_neg ng, nk, k1_iI]
    exact ⟨⟨trivial, vin_iI (by omega) (by omega) (by omega), vin_iI (by omega) (by omega) (by omega), trivial⟩, rfl⟩
  have key := for_it (s := s_X8_town_27) (M := M) (N := 4) (fun k D => (∀ j, j < k → D.1 613 j = M.1 604 j) ∧ Fq (fun a _ => a = 613) M D) ⟨fun j hj => absurd hj (Nat.not_lt_zero j), Fq.rf⟩ (fun k D hk hP => ⟨_, (one k D hk hP).2, fun j hj => by
    by_cases q : j = k
    · rw [q, rd_same, hP.2.1 _ _ (by omega)]
    · rw [rd_ne (Or.inr q)]; exact hP.1 j (by omega), hP.2.wi rfl⟩)
  obtain ⟨D, d1, d2⟩ := key 4 (Nat.le_refl _)
  change l_X8_town_27 (M, 0) 4 = (D, iI ((4 : Nat) : Int)) at d1
  have cq : ∀ k, k < 4 → c_X8_town_27 (l_X8_town_27 (M, 0) k) ∧ q_X8_town_27 (l_X8_town_27 (M, 0) k) := fun k hk => by
    obtain ⟨D1, e1, e2⟩ := key k (by omega)
    change l_X8_town_27 (M, 0) k = (D1, iI (k : Int)) at e1
    rw [e1]
    exact (one k D1 hk e2).1
  have fin : (4 : Int32) ≤ iI ((4 : Nat) : Int) := by decide
  refine ⟨D, fun k hk => (cq k hk).1, fun k hk => (cq k hk).2, ?_, d1, d2⟩
  rw [d1]
  unfold c_X8_town_27
  dsimp only
  rw [if_pos fin]
  exact fun h => h
theorem r_town (hX : RX M b tl) (hL : ∀ k, k < 4 → M.1 604 k = iI (T 3 k)) (hC : RCl M) (hI : InvT T) (hN : N ≤ 240) (h1 : ∀ k, k < N → goOn b tl (rho b tl (tZ T) sZ k)) (h2 : ¬ goOn b tl (rho b tl (tZ T) sZ N)) : p_X8_town M ∧
    (∀ p, rho b tl (tZ T) sZ N = .inl p → r_X8_town M = -100 - iI (p : Int) ∧ (w_X8_town M).1 600 15 = 0 ∧ Fq (fun a k => (a = 600 ∧ 15 ≤ k ∧ k ≤ 24) ∨ (610 ≤ a ∧ a ≤ 613)) M (w_X8_town M)) ∧
    (∀ e T' S', rho b tl (tZ T) sZ N = .inr (e, T', S') → r_X8_town M = iI (T' 0 2) ∧ (RT (w_X8_town M) T' ∧ RS (w_X8_town M) 0 T' S' ∧ (w_X8_town M).1 600 11 = 0 ∧ (w_X8_town M).1 600 42 = 0 ∧ (w_X8_town M).1 600 15 = 0) ∧ Fq (fun a k => (a = 600 ∧ (15 ≤ k ∧ k ≤ 24 ∨ k ≤ 2 ∨ k = 11 ∨ k = 42)) ∨ (610 ≤ a ∧ a ≤ 613) ∨ (601 ≤ a ∧ a ≤ 604) ∨ a = 607) M (w_X8_town M)) := by
  have hv := tZ_iv hI
  have z0 := tZ_0 T (k := 0) (by omega)
  have z1 := tZ_0 T (k := 1) (by omega)
  have z2 := tZ_0 T (k := 2) (by omega)
  unfold p_X8_town r_X8_town w_X8_town
  obtain ⟨M5, hM5⟩ : ∃ M5, M5 = wi (wi (wi (wi (wi M 600 18 0) 600 21 1) 600 22 0) 600 23 0) 600 24 0 := ⟨_, rfl⟩
  rw [← hM5, n4_eq]
  have F5 : Fq (fun a k => a = 600 ∧ 18 ≤ k ∧ k ≤ 24) M M5 := by
    rw [hM5]
    exact Fq.wi (Fq.wi (Fq.wi (Fq.wi (Fq.wi Fq.rf (by omega)) (by omega)) (by omega)) (by omega)) (by omega)
  have m8 : M5.1 600 18 = 0 := by rw [hM5, rd_ne (Or.inr (by omega)), rd_ne (Or.inr (by omega)), rd_ne (Or.inr (by omega)), rd_ne (Or.inr (by omega)), rd_same]
  have m1 : M5.1 600 21 = 1 := by rw [hM5, rd_ne (Or.inr (by omega)), rd_ne (Or.inr (by omega)), rd_ne (Or.inr (by omega)), rd_same]
  have m2 : M5.1 600 22 = 0 := by rw [hM5, rd_ne (Or.inr (by omega)), rd_ne (Or.inr (by omega)), rd_same]
  have m3 : M5.1 600 23 = 0 := by rw [hM5, rd_ne (Or.inr (by omega)), rd_same]
  have m4 : M5.1 600 24 = 0 := by rw [hM5, rd_same]
  clear hM5
  obtain ⟨D, cs, qs, nc, eD, d1, FD⟩ := t27 (M := M5)
  have fin : (4 : Int32) ≤ iI ((4 : Nat) : Int) := by decide
  rw [eD]
  dsimp only
  rw [if_pos fin, if_pos fin, if_pos fin]
  rw [eD] at nc
  have F6 : Fq (fun a k => (a = 600 ∧ 18 ≤ k ∧ k ≤ 24) ∨ a = 613) M D := (F5.mono (fun a k u => Or.inl u)).tr (FD.mono (fun a k u => Or.inr u))
  obtain ⟨a1, a2, a3, a4⟩ := r_advK (hX.fq F6 (by omega) (fun k => by omega)) (Nat.zero_le tl) (show D.1 600 18 = iI ((0 : Nat) : Int) by rw [FD.1 _ _ (by omega)]; exact m8)
  have dd : RDr D (tZ T) sZ := by
    refine ⟨⟨?_, ?_, ?_⟩, fun x h0 hx => by omega, fun x h0 hx => by omega, fun k hk => ?_, fun w f hw hf => by omega⟩
    · rw [z0, FD.1 _ _ (by omega)]; exact m2
    · rw [z1, FD.1 _ _ (by omega)]; exact m3
    · rw [z2, FD.1 _ _ (by omega)]; exact m4
    · rw [tZ_n T (by omega), d1 k hk, F5.1 _ _ (by omega)]; exact hL k hk
  have g : RG (w_X8_advance D) b tl 0 := ⟨a3, Nat.zero_le _, a2, by rw [a4.1 _ _ (by omega), FD.1 _ _ (by omega)]; exact m1⟩
  have F7 : Fq qV D (w_X8_advance D) := a4.mono (fun a k u => ⟨u.1, u.2.1, by omega⟩)
  have d2 := dd.fv F7
  have FR : Fq (fun a k => (a = 600 ∧ 15 ≤ k ∧ k ≤ 24) ∨ (610 ≤ a ∧ a ≤ 613)) M (w_X8_advance D) := (F6.mono (fun a k u => by omega)).tr (F7.mono (fun a k u => by omega))
  have hC2 : RCl (w_X8_advance D) := hC.fq FR (fun a k u => by omega)
  generalize w_X8_advance D = E at g d2 FR hC2 ⊢
  obtain ⟨W, w1, w2, w3, w4, w5⟩ := r_into (iI ((4 : Nat) : Int)) g d2 hC2 hv hN h1 h2
  rw [w4, w5]
  have FW : Fq (fun a k => (a = 600 ∧ 15 ≤ k ∧ k ≤ 24) ∨ (610 ≤ a ∧ a ≤ 613)) M (wi W 600 15 0) := (FR.tr (w2.mono (fun a k u => by omega))).wi (by omega)
  have wz : (wi W 600 15 0).1 600 15 = 0 := rd_same ..
  unfold p_X8_town_75 at w3
  unfold r_X8_town_75 w_X8_town_75
  cases hr : rho b tl (tZ T) sZ N with
  | inl p =>
    rw [hr] at w1
    have gF : RF W p := w1
    have gF2 : RF (wi W 600 15 0) p := gF.of (fun k u v => rd_ne (Or.inr (by omega)))
    have nn := not_not_intro gF2.1
    rw [if_neg nn] at w3
    rw [if_neg nn, if_neg nn, gF2.2]
    refine ⟨⟨cs, qs, nc, a1, w3 trivial⟩, fun p' e' => ?_, fun e T' S' e' => by cases e'⟩
    cases e'
    exact ⟨rfl, wz, FW⟩
  | inr q =>
    obtain ⟨e, T', S'⟩ := q
    rw [hr] at w1
    obtain ⟨gR, dR⟩ := w1
    have gd := gd_rho (b := b) (tl := tl) hv N h1
    rw [hr] at gd
    obtain ⟨-, -, hv', -⟩ := gd
    have dR2 : RDr (wi W 600 15 0) T' S' := dR.fq (Fq.wi (Q := fun a k => a = 600 ∧ k = 15) Fq.rf ⟨rfl, rfl⟩) (fun a k u => by omega)
    have fl : ¬ (wi W 600 15 0).1 600 21 = 0 := by rw [rd_ne (Or.inr (by omega))]; exact gR.flag
    rw [if_pos fl] at w3
    rw [if_pos fl, if_pos fl]
    generalize wi W 600 15 0 = V at dR2 FW wz w3 ⊢
    obtain ⟨x1, x2, x3, x4, x5, x6, x7⟩ := rx_take dR2 hv' (iI ((4 : Nat) : Int))
    refine ⟨⟨cs, qs, nc, a1, w3 x1⟩, fun p' e' => (by cases e'), fun e' T1 S1 e1 => ?_⟩
    cases e1
    exact ⟨x2, ⟨x3, x4, x5, x6, by rw [x7.1 _ _ (by omega)]; exact wz⟩, (FW.mono (fun a k u => by omega)).tr (x7.mono (fun a k u => by omega))⟩
theorem pair_town (h : Rel M n) (hn : n < 64) : PairI (p_X7_town M) (p_X8_town (w_X7_town M)) (r_X7_town M) (r_X8_town (w_X7_town M)) (w_X8_town (w_X7_town M)) n := by
  obtain ⟨T, S, g, ⟨c1, c2, c3, c4⟩, ⟨r1, r2, r3, r4, r5⟩, i1, i2, i3, i4, i5⟩ := h.1
  obtain ⟨tl, t1, t2, t3, t4⟩ := h.2.2.1
  have hD : M.1 1020 5 = iI 0 := h.2.2.2.2.2.2.1
  have hC := h.2.2.2.2.2.2.2
  obtain ⟨b, hb⟩ : ∃ b : Nat → Int, ∀ j, j < tl → (0 ≤ b j ∧ b j < 256) ∧ M.1 609 j = iI (b j) ∧ M.1 501 j = iI (sb (b j)) := by
    refine ⟨fun j => if hj : j < tl then Classical.choose (t4 j hj) else 0, fun j hj => ?_⟩
    have := Classical.choose_spec (t4 j hj)
    simp only [dif_pos hj]
    exact this
  have hX : CX M b tl := ⟨t1, t2, fun j hj => ⟨(hb j hj).1, (hb j hj).2.2⟩⟩
  have hv := tZ_iv i1
  obtain ⟨N, hN, h1, h2⟩ := rounds (b := b) (tl := tl) hv t1
  have gd := gd_rho (b := b) (tl := tl) hv N h1
  obtain ⟨y1, y2, y3⟩ := c_town hX c1 i1 hN h1 h2
  have RXo : ∀ {Q : Nat → Nat → Prop} {W : Mm}, Fq Q M W → (∀ a k, 600 ≤ a → a ≤ 626 → ¬ Q a k) → RX W b tl ∧ (∀ k, k < 4 → W.1 604 k = iI (T 3 k)) ∧ RCl W := fun {Q W} F hq => ⟨⟨t1, by rw [F.1 _ _ (hq _ _ (by omega) (by omega))]; exact t3, fun j hj => ⟨(hb j hj).1, by rw [F.1 _ _ (hq _ _ (by omega) (by omega))]; exact (hb j hj).2.1⟩⟩, fun k hk => by rw [F.1 _ _ (hq _ _ (by omega) (by omega))]; exact r1.2.2.2.1 k hk, fun k hk => ⟨by rw [F.1 _ _ (hq _ _ (by omega) (by omega)), (hC k hk).1]; exact (lw_om k hk).1, by rw [F.1 _ _ (hq _ _ (by omega) (by omega)), (hC k hk).2]; exact (lw_om k hk).2⟩⟩
  cases hr : rho b tl (tZ T) sZ N with
  | inl p =>
    obtain ⟨x1, x2, x3⟩ := y2 p hr
    obtain ⟨o1, o2, o3⟩ := RXo x3 (fun a k u v => by omega)
    generalize w_X7_town M = W at x2 x3 o1 o2 o3 ⊢
    obtain ⟨z1, z2, -⟩ := r_town o1 o2 o3 i1 hN h1 h2
    obtain ⟨v1, v2, v3⟩ := z2 p hr
    refine ⟨y1, z1, by rw [x1, v1], ?_⟩
    have F : Fq (fun a k => (a = 500 ∨ (300 ≤ a ∧ a ≤ 315) ∨ (1020 ≤ a ∧ a ≤ 1024 ∧ (a = 1020 → k = 4))) ∨ ((a = 600 ∧ 15 ≤ k ∧ k ≤ 24) ∨ (610 ≤ a ∧ a ≤ 613))) M (w_X8_town W) := (x3.mono (fun a k u => Or.inl u)).tr (v3.mono (fun a k u => Or.inr u))
    refine h.ofq (by omega) F (Or.inl fun a k u => by omega) (Or.inl fun a k u => by omega) (Or.inr ⟨0, by omega, ?_, v2, fun j hj => absurd hj (Nat.not_lt_zero j)⟩) (fun a k u => by omega) (fun a k u => by omega) (fun a k u => by omega) (Or.inl fun a k u => by omega) (fun a k u => by omega)
    rw [v3.1 _ _ (by omega)]; exact x2
  | inr q =>
    obtain ⟨e, T', S'⟩ := q
    rw [hr] at gd
    obtain ⟨-, -, hv', k3, k4, k5⟩ := gd
    rw [tZ_n T (by omega)] at k3
    have k4' : ∀ k, T' 4 k = T 4 k := fun k => by rw [k4 k, tZ_n T (by omega)]
    have k5' : ∀ k, T' 5 k = T 5 k := fun k => by rw [k5 k, tZ_n T (by omega)]
    obtain ⟨x1, ⟨x2, x3, x4, x5, x6⟩, xF⟩ := y3 e T' S' hr
    obtain ⟨o1, o2, o3⟩ := RXo xF (fun a k u v => by omega)
    generalize w_X7_town M = W at x2 x3 x4 x5 x6 xF o1 o2 o3 ⊢
    obtain ⟨z1, -, z2⟩ := r_town o1 o2 o3 i1 hN h1 h2
    obtain ⟨v1, ⟨v2, v3, v4, v5, v6⟩, vF⟩ := z2 e T' S' hr
    refine ⟨y1, z1, by rw [x1, v1], ?_⟩
    generalize w_X8_town W = V at v2 v3 v4 v5 v6 vF ⊢
    have F : Fq (fun a k => (a = 500 ∨ (300 ≤ a ∧ a ≤ 315) ∨ (1020 ≤ a ∧ a ≤ 1024 ∧ (a = 1020 → k = 4)) ∨ (a = 100 ∧ k < 3) ∨ a = 101 ∨ a = 102 ∨ a = 104 ∨ (110 ≤ a ∧ a ≤ 115) ∨ (1000 ≤ a ∧ a ≤ 1004) ∨ (a = 1 ∧ k = 8)) ∨ ((a = 600 ∧ (15 ≤ k ∧ k ≤ 24 ∨ k ≤ 2 ∨ k = 11 ∨ k = 42)) ∨ (610 ≤ a ∧ a ≤ 613) ∨ (601 ≤ a ∧ a ≤ 604) ∨ a = 607)) M V := (xF.mono (fun a k u => Or.inl u)).tr (vF.mono (fun a k u => Or.inr u))
    have cT : CT V 100 T' := x2.fq hv'.1 vF (fun a k u v => by omega)
    have cS : CSt V 1000 T' S' := x3.fq vF (fun a k u v => by omega)
    refine h.ofq (by omega) F (Or.inr ⟨T', S', 0, ⟨cT, cS, ?_, ?_⟩, ⟨v2, v3, ⟨?_, r3.2⟩, v4, ?_⟩, hv'.1, i2.eq k3 k4' k5', hv'.2.1.mono (by omega) (by omega), Int.le_refl 0, by omega⟩) (Or.inr ⟨0, by omega, ?_, v5, fun j hj => absurd hj (by omega)⟩) (Or.inr ⟨0, by omega, ?_, v6, fun j hj => absurd hj (Nat.not_lt_zero j)⟩) (fun a k u => by omega) (fun a k u => by omega) (fun a k u => by omega) (Or.inl fun a k u => by omega) (fun a k u => by omega)
    · rw [vF.1 _ _ (by omega), x4]; exact hD
    · refine CRu.eq (T := T) ⟨?_, fun x h0 hx => ?_⟩ k3 k4' k5'
      · rw [F.1 _ _ (by omega)]; exact c4.1
      · rw [F.1 _ _ (by omega), F.1 _ _ (by omega)]; exact c4.2 x h0 hx
    · rw [F.1 _ _ (by omega)]; exact r3.1
    · refine RRu.eq (T := T) ⟨?_, fun x h0 hx => ?_⟩ k3 k4' k5'
      · rw [F.1 _ _ (by omega)]; exact r5.1
      · rw [F.1 _ _ (by omega), F.1 _ _ (by omega)]; exact r5.2 x h0 hx
    · rw [vF.1 _ _ (by omega)]; exact x5
    · rw [vF.1 _ _ (by omega)]; exact x6
end PB1
