/-! tokens: the class goes on -/
section P90
variable {M D : Mm} {b : Nat → Int} {tl e : Nat}
theorem c_more {kk : Int} (hX : CX M b tl) (he : e ≤ tl) (h4 : M.1 500 4 = iI (e : Int)) (h2 : M.1 500 2 = iI kk) (hk : 1 ≤ kk ∧ kk ≤ 3) :
    ∃ N, N ≤ 240 ∧ (∀ k, k < N → c_X4_advance_121 (l_X4_advance_121 M k)) ∧ (∀ k, k < N → q_X4_advance_121 (l_X4_advance_121 M k)) ∧ ¬ c_X4_advance_121 (l_X4_advance_121 M N) ∧ q_X4_advance_121 (l_X4_advance_121 M N) ∧ (l_X4_advance_121 M N).1 500 4 = iI ((rn (fun i => kd (b i) = kk) tl tl e : Nat) : Int) ∧ Fq (fun a k => a = 500 ∧ k = 4) M (l_X4_advance_121 M N) := by
  obtain ⟨s1, s2, s3, s4⟩ := rn_s (fun i => kd (b i) = kk) tl tl e he (by omega)
  obtain ⟨s, hs⟩ : ∃ s, s = rn (fun i => kd (b i) = kk) tl tl e := ⟨_, rfl⟩
  rw [← hs] at s1 s2 s3 s4
  have one : ∀ (i : Nat) (D : Mm), i ≤ s → e ≤ i → D.1 500 4 = iI (i : Int) → Fq (fun a k => a = 500 ∧ k = 4) M D → (c_X4_advance_121 D ↔ i < s) ∧ q_X4_advance_121 D ∧ (i < s → s_X4_advance_121 D = wi D 500 4 (iI ((i + 1 : Nat) : Int))) := by
    intro i D hi he' d1 d2
    have kX : CX D b tl := hX.fq d2 (by omega) (fun k => by omega)
    have t1 := kX.1
    have e2 : D.1 500 2 = iI kk := by rw [d2.1 _ _ (by omega)]; exact h2
    unfold c_X4_advance_121 q_X4_advance_121 s_X4_advance_121
    rw [d1, kX.2.1, e2]
    by_cases c : i < tl
    · have g : ¬ iI (tl : Int) ≤ iI (i : Int) := by rw [iI_le (by omega) (by omega) (by omega) (by omega)]; omega
      have ni : Int32.toNatClampNeg (iI (i : Int)) = i := natk rfl (by omega)
      have vi : vp_in (iI (i : Int)) 240 := vin_iI (by omega) (by omega) (by omega)
      obtain ⟨z1, z2⟩ := kX.2.2 i c
      have kb := kd_b (b i)
      have kk' : (iI (kd (b i)) = iI kk) ↔ kd (b i) = kk := by rw [iI_eq (by omega) (by omega) (by omega) (by omega)]
      rw [if_neg g, if_neg g, if_neg g, ni, z2, sb_kd z1]
      by_cases q : i < s
      · have := s3 i he' q
        have g2 := not_not_intro (kk'.mpr this)
        rw [if_neg g2, if_neg g2, if_neg g2, k1_iI]
        exact ⟨⟨fun _ => q, fun _ => trivial⟩, ⟨vi, trivial⟩, fun _ => rfl⟩
      · have ei : i = s := by omega
        have nb : ¬ kd (b i) = kk := by
          rcases s4 with s4 | s4
          · omega
          · rw [ei]; exact s4
        have g2 : ¬ iI (kd (b i)) = iI kk := fun u => nb (kk'.mp u)
        rw [if_pos g2, if_pos g2]
        exact ⟨⟨fun u => u.elim, fun u => absurd u q⟩, ⟨vi, trivial⟩, fun u => absurd u q⟩
    · have g : iI (tl : Int) ≤ iI (i : Int) := by rw [iI_le (by omega) (by omega) (by omega) (by omega)]; omega
      rw [if_pos g, if_pos g]
      exact ⟨⟨fun u => u.elim, fun u => absurd u (by omega)⟩, trivial, fun u => absurd u (by omega)⟩
  have key : ∀ k, k ≤ s - e → (l_X4_advance_121 M k).1 500 4 = iI ((e + k : Nat) : Int) ∧ Fq (fun a k => a = 500 ∧ k = 4) M (l_X4_advance_121 M k) := by
    intro k
    induction k with
    | zero => intro _; exact ⟨h4, Fq.rf⟩
    | succ k ih =>
      intro hk
      obtain ⟨i1, i2⟩ := ih (by omega)
      have e1 : l_X4_advance_121 M (k + 1) = wi (l_X4_advance_121 M k) 500 4 (iI ((e + k + 1 : Nat) : Int)) := (one (e + k) _ (by omega) (by omega) i1 i2).2.2 (by omega)
      rw [e1]
      exact ⟨rd_same .., i2.wi (by omega)⟩
  have t1 := hX.1
  obtain ⟨f1, f2⟩ := key (s - e) (Nat.le_refl _)
  refine ⟨s - e, by omega, fun k hk => ?_, fun k hk => ?_, ?_, ?_, ?_, f2⟩
  · obtain ⟨i1, i2⟩ := key k (by omega)
    exact (one (e + k) _ (by omega) (by omega) i1 i2).1.mpr (by omega)
  · obtain ⟨i1, i2⟩ := key k (by omega)
    exact (one (e + k) _ (by omega) (by omega) i1 i2).2.1
  · exact fun u => absurd ((one (e + (s - e)) _ (by omega) (by omega) f1 f2).1.mp u) (by omega)
  · exact (one (e + (s - e)) _ (by omega) (by omega) f1 f2).2.1
  · rw [f1, ← hs]
    congr 1
    omega
theorem c_105 {kk : Int} (hX : CX M b tl) (he : e ≤ tl) (h4 : M.1 500 4 = iI (e : Int)) (h2 : M.1 500 2 = iI kk) (hk : 0 ≤ kk ∧ kk ≤ 3) :
    p_X4_advance_105 M ∧ (w_X4_advance_105 M).1 500 4 = iI (((if kk = 1 ∨ kk = 2 then rn (fun i => kd (b i) = kk) tl tl e else e) : Nat) : Int) ∧ Fq (fun a k => a = 500 ∧ k = 4) M (w_X4_advance_105 M) := by
  have k1 : (iI kk = (1 : Int32)) ↔ kk = 1 := by rw [cl1, iI_eq (by omega) (by omega) (by omega) (by omega)]
  have k2 : (iI kk = (2 : Int32)) ↔ kk = 2 := by rw [cl2, iI_eq (by omega) (by omega) (by omega) (by omega)]
  by_cases c : kk = 1 ∨ kk = 2
  · obtain ⟨N, n1, n2, n3, n4, n5, n6, n7⟩ := c_more hX he h4 h2 (by omega)
    have cn : cntN (fun k => c_X4_advance_121 (l_X4_advance_121 M k)) 241 = N := cntN_eq (by omega) n2 n4
    have nc := n4
    unfold c_X4_advance_121 at nc
    unfold q_X4_advance_121 at n5
    unfold p_X4_advance_105 w_X4_advance_105
    rw [cn, h2, if_pos c]
    generalize hL : l_X4_advance_121 M N = L at n4 n5 n6 n7 nc
    have fin : (if L.1 500 1 ≤ L.1 500 4 then L else if ¬ (if 97 ≤ (L.1 501 (Int32.toNatClampNeg (L.1 500 4))) ∧ (L.1 501 (Int32.toNatClampNeg (L.1 500 4))) ≤ 122 then 1 else if 48 ≤ (L.1 501 (Int32.toNatClampNeg (L.1 500 4))) ∧ (L.1 501 (Int32.toNatClampNeg (L.1 500 4))) ≤ 57 then 2 else 3) = (L.1 500 2) then L else M) = L := by
      by_cases g : L.1 500 1 ≤ L.1 500 4
      · rw [if_pos g]
      · rw [if_neg g] at nc ⊢
        by_cases g2 : (if 97 ≤ (L.1 501 (Int32.toNatClampNeg (L.1 500 4))) ∧ (L.1 501 (Int32.toNatClampNeg (L.1 500 4))) ≤ 122 then 1 else if 48 ≤ (L.1 501 (Int32.toNatClampNeg (L.1 500 4))) ∧ (L.1 501 (Int32.toNatClampNeg (L.1 500 4))) ≤ 57 then 2 else 3) = (L.1 500 2)
        · rw [if_neg (not_not_intro g2)] at nc
          exact absurd trivial nc
        · rw [if_pos g2]
    by_cases d : kk = 1
    · rw [if_pos (k1.mpr d), if_pos (k1.mpr d), fin]
      exact ⟨⟨n2, n3, n4, n5⟩, n6, n7⟩
    · have g1 : ¬ iI kk = (1 : Int32) := fun u => d (k1.mp u)
      have g2 := not_not_intro (k2.mpr (show kk = 2 by omega))
      rw [if_neg g1, if_neg g1, if_neg g2, if_neg g2, fin]
      exact ⟨⟨n2, n3, n4, n5⟩, n6, n7⟩
  · have g1 : ¬ iI kk = (1 : Int32) := fun u => c (Or.inl (k1.mp u))
    have g2 : ¬ iI kk = (2 : Int32) := fun u => c (Or.inr (k2.mp u))
    unfold p_X4_advance_105 w_X4_advance_105
    rw [h2, if_neg g1, if_neg g1, if_pos g2, if_pos g2, if_neg c]
    exact ⟨trivial, h4, Fq.rf⟩
theorem c_adv (hX : CX M b tl) (he : e ≤ tl) (h4 : M.1 500 4 = iI (e : Int)) :
    p_X4_advance M ∧ (w_X4_advance M).1 500 2 = iI (tkK b tl e) ∧ (w_X4_advance M).1 500 3 = iI ((tkS b tl e : Nat) : Int) ∧ (w_X4_advance M).1 500 4 = iI ((tkE b tl e : Nat) : Int) ∧ Fq (fun a k => a = 500 ∧ 2 ≤ k ∧ k ≤ 4) M (w_X4_advance M) := by
  have t1 := hX.1
  obtain ⟨s1, s2, -, -⟩ := rn_s (fun i => b i = 32) tl tl e he (by omega)
  change e ≤ tkS b tl e at s1
  change tkS b tl e ≤ tl at s2
  unfold p_X4_advance w_X4_advance
  rw [h4]
  have F0 : Fq (fun a k => a = 500 ∧ 2 ≤ k ∧ k ≤ 4) M (wi M 500 3 (iI (e : Int))) := Fq.wi Fq.rf (by omega)
  have m3 : (wi M 500 3 (iI (e : Int))).1 500 3 = iI (e : Int) := rd_same ..
  generalize wi M 500 3 (iI (e : Int)) = M0 at F0 m3 ⊢
  obtain ⟨N, n1, n2, n3, n4, n5, n6⟩ := c_skip (hX.fq F0 (by omega) (fun k => by omega)) he m3
  have cn : cntN (fun k => c_X4_advance_8 (l_X4_advance_8 M0 k)) 241 = N := cntN_eq (by omega) n2 n4
  rw [cn]
  have nc := n4
  unfold c_X4_advance_8 at nc
  have FL : Fq (fun a k => a = 500 ∧ 2 ≤ k ∧ k ≤ 4) M (l_X4_advance_8 M0 N) := F0.tr (n6.mono (fun a k h => by omega))
  generalize hL : l_X4_advance_8 M0 N = L at n4 n5 FL nc ⊢
  clear n6
  have LX : CX L b tl := hX.fq FL (by omega) (fun k => by omega)
  have L1 : L.1 500 1 = iI (tl : Int) := LX.2.1
  rw [L1, n5] at nc ⊢
  -- from L on
  have go : p_X4_advance_46 L ∧ (w_X4_advance_46 L).1 500 2 = iI (tkK b tl e) ∧ (w_X4_advance_46 L).1 500 3 = iI ((tkS b tl e : Nat) : Int) ∧ (w_X4_advance_46 L).1 500 4 = iI ((tkE b tl e : Nat) : Int) ∧ Fq (fun a k => a = 500 ∧ 2 ≤ k ∧ k ≤ 4) L (w_X4_advance_46 L) := by
    have up : ∀ (kk : Int) (e' : Nat), 0 ≤ kk ∧ kk ≤ 3 → e' ≤ tl → p_X4_advance_105 (wi (wi L 500 2 (iI kk)) 500 4 (iI (e' : Int))) ∧ (w_X4_advance_105 (wi (wi L 500 2 (iI kk)) 500 4 (iI (e' : Int)))).1 500 2 = iI kk ∧ (w_X4_advance_105 (wi (wi L 500 2 (iI kk)) 500 4 (iI (e' : Int)))).1 500 3 = iI ((tkS b tl e : Nat) : Int) ∧ (w_X4_advance_105 (wi (wi L 500 2 (iI kk)) 500 4 (iI (e' : Int)))).1 500 4 = iI (((if kk = 1 ∨ kk = 2 then rn (fun i => kd (b i) = kk) tl tl e' else e') : Nat) : Int) ∧ Fq (fun a k => a = 500 ∧ 2 ≤ k ∧ k ≤ 4) L (w_X4_advance_105 (wi (wi L 500 2 (iI kk)) 500 4 (iI (e' : Int)))) := fun kk e' hk he' => by
      have F1 : Fq (fun a k => a = 500 ∧ 2 ≤ k ∧ k ≤ 4) L (wi (wi L 500 2 (iI kk)) 500 4 (iI (e' : Int))) := Fq.wi (Fq.wi Fq.rf (by omega)) (by omega)
      have x2 : (wi (wi L 500 2 (iI kk)) 500 4 (iI (e' : Int))).1 500 2 = iI kk := by rw [rd_ne (Or.inr (by omega)), rd_same]
      have x3 : (wi (wi L 500 2 (iI kk)) 500 4 (iI (e' : Int))).1 500 3 = iI ((tkS b tl e : Nat) : Int) := by rw [rd_ne (Or.inr (by omega)), rd_ne (Or.inr (by omega))]; exact n5
      obtain ⟨y1, y2, y3⟩ := c_105 (LX.fq F1 (by omega) (fun k => by omega)) he' (rd_same ..) x2 hk
      exact ⟨y1, by rw [y3.1 _ _ (by omega)]; exact x2, by rw [y3.1 _ _ (by omega)]; exact x3, y2, F1.tr (y3.mono (fun a k h => by omega))⟩
    have w1 : ∀ v : Int32, (wi L 500 2 v).1 500 1 = iI (tl : Int) := fun v => by rw [rd_ne (Or.inr (by omega))]; exact L1
    have w3 : ∀ v : Int32, (wi L 500 2 v).1 500 3 = iI ((tkS b tl e : Nat) : Int) := fun v => by rw [rd_ne (Or.inr (by omega))]; exact n5
    unfold p_X4_advance_46 w_X4_advance_46 p_X4_advance_77 w_X4_advance_77
    rw [L1, n5]
    by_cases c : tkS b tl e < tl
    · have g : ¬ iI (tl : Int) ≤ iI ((tkS b tl e : Nat) : Int) := by rw [iI_le (by omega) (by omega) (by omega) (by omega)]; omega
      have ni : Int32.toNatClampNeg (iI ((tkS b tl e : Nat) : Int)) = tkS b tl e := natk rfl (by omega)
      have vi : vp_in (iI ((tkS b tl e : Nat) : Int)) 240 := vin_iI (by omega) (by omega) (by omega)
      obtain ⟨z1, z2⟩ := LX.2.2 _ c
      have kb := kd_b (b (tkS b tl e))
      have eK : tkK b tl e = kd (b (tkS b tl e)) := if_pos c
      rw [if_neg g, if_neg g, ni, z2, sb_kd z1, w1, w3, if_neg g, if_neg g, k1_iI, ← eK]
      rw [← eK] at kb
      obtain ⟨y1, y2, y3, y4, y5⟩ := up (tkK b tl e) (tkS b tl e + 1) (by omega) (by omega)
      refine ⟨⟨vi, y1⟩, y2, y3, ?_, y5⟩
      rw [y4]
      congr 2
      unfold tkE
      rw [if_pos c]
      by_cases d : tkK b tl e = 3
      · rw [if_pos d, if_neg (by omega)]
      · rw [if_neg d, if_pos (by omega)]
    · have g : iI (tl : Int) ≤ iI ((tkS b tl e : Nat) : Int) := by rw [iI_le (by omega) (by omega) (by omega) (by omega)]; omega
      have eK : tkK b tl e = 0 := if_neg c
      have eE : tkE b tl e = tkS b tl e := if_neg c
      rw [if_pos g, if_pos g, w1, w3, if_pos g, if_pos g, eK, eE]
      obtain ⟨y1, y2, y3, y4, y5⟩ := up 0 (tkS b tl e) (by decide) s2
      rw [if_neg (by decide)] at y4
      exact ⟨y1, y2, y3, y4, y5⟩
  obtain ⟨g1, g2, g3, g4, g5⟩ := go
  have ncq : ¬ c_X4_advance_8 L := n4
  by_cases c : iI (tl : Int) ≤ iI ((tkS b tl e : Nat) : Int)
  · rw [if_pos c, if_pos c]
    exact ⟨⟨n2, n3, ncq, g1⟩, g2, g3, g4, FL.tr g5⟩
  · rw [if_neg c] at nc
    rw [if_neg c, if_neg c]
    have c' := c
    rw [iI_le (by omega) (by omega) (by omega) (by omega)] at c'
    have vi : vp_in (iI ((tkS b tl e : Nat) : Int)) 240 := vin_iI (by omega) (by omega) (by omega)
    by_cases d : (L.1 501 (Int32.toNatClampNeg (iI ((tkS b tl e : Nat) : Int)))) = (32 : Int32)
    · rw [if_neg (not_not_intro d)] at nc
      exact absurd trivial nc
    · rw [if_pos d, if_pos d]
      exact ⟨⟨n2, n3, ncq, vi, g1⟩, g2, g3, g4, FL.tr g5⟩
end P90
