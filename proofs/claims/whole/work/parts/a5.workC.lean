/-! a work read: the class -/
def CDr (M : Mm) (T S : Tw) : Prop := CT M 300 T ∧ CSt M 1020 T S
def CRs (M : Mm) (b : Nat → Int) (tl : Nat) : Rr → Prop
  | .inl p => CF M b tl p
  | .inr (e, T, S) => CG M b tl e ∧ CDr M T S
abbrev qD (a k : Nat) : Prop := (a = 500 ∧ 2 ≤ k ∧ k ≤ 5) ∨ (300 ≤ a ∧ a ≤ 315) ∨ (1021 ≤ a ∧ a ≤ 1024)
theorem qCD (a k : Nat) (h : qC a k) : qD a k := Or.inl h
section PA5
variable {M M' : Mm} {b : Nat → Int} {tl e p : Nat} {T S : Tw} {V : Nat → Int} {k m t o d w h : Int}
theorem CDr.fq {Q : Nat → Nat → Prop} (dd : CDr M T S) (hI : InvT T) (F : Fq Q M M') (h1 : ∀ a k, (300 ≤ a ∧ a ≤ 315) ∨ (1020 ≤ a ∧ a ≤ 1024) → ¬ Q a k) : CDr M' T S := ⟨dd.1.fq hI F (fun a k u v => h1 a k (by omega)), dd.2.fq F (fun a k u v => h1 a k (by omega))⟩
theorem CDr.fc (dd : CDr M T S) (hI : InvT T) (F : Fq qC M M') : CDr M' T S := dd.fq hI F (fun a k u => by show ¬ (_ ∧ _); omega)
theorem vV6 : (fun g => if g = 6 then h else vV k m t o d w (-1) 0 g) = vV k m t o d w h 0 := by
  funext g
  unfold vV
  by_cases q : g = 6
  · subst q; rfl
  · rw [if_neg q]
    by_cases q7 : g = 7
    · rw [if_pos q7, if_pos q7]
    · rw [if_neg q7, if_neg q7, if_neg q, if_neg q]
theorem vV7 {x : Int} : (fun g => if g = 7 then x else vV k m t o d w h 0 g) = vV k m t o d w h x := by
  funext g
  unfold vV
  by_cases q : g = 7
  · rw [if_pos q, if_pos q]
  · rw [if_neg q, if_neg q, if_neg q]
theorem cdr_set (dd : CDr M (tW T V) S) (hI : InvT T) (h2 : T 0 2 < 6) {f : Nat} {v : Int} : CDr (wi M (310 + (T 0 2).toNat) f (iI v)) (tW T (fun g => if g = f then v else V g)) S := by
  have c := hI.1
  obtain ⟨⟨⟨c0, c1, c2⟩, c3, c4, c5, c6⟩, ⟨s0, s1, s2, s3, s4⟩⟩ := dd
  have z : ∀ (U : Nat → Int) k, k ≠ 2 → tW T U 0 k = T 0 k := fun U k hk => tW_o (Or.inr hk) (by omega)
  have ee : ∀ (U : Nat → Int) i k, 1 ≤ i → i < 10 → tW T U i k = T i k := fun U i k a b => tW_o (Or.inl (by omega)) (by omega)
  rw [z _ 0 (by omega)] at c0 c3 s0
  rw [z _ 1 (by omega)] at c1 c4 s1
  rw [tW_0] at c2 c6 s2 s3
  refine ⟨⟨⟨?_, ?_, ?_⟩, fun x h0 hx => ?_, fun x h0 hx => ?_, fun k hk => ?_, fun w g hw hg => ?_⟩, ⟨fun x h0 hx => ?_, fun x h0 hx => ?_, fun x h0 hx => ?_, fun x h0 hx => ?_, ?_⟩⟩
  · rw [z _ 0 (by omega), rd_ne (Or.inl (by omega))]; exact c0
  · rw [z _ 1 (by omega), rd_ne (Or.inl (by omega))]; exact c1
  · rw [tW_0, rd_ne (Or.inl (by omega))]; exact c2
  · rw [z _ 0 (by omega)] at hx
    have := c3 x h0 hx
    rw [ee _ _ _ (by omega) (by omega)] at this
    rw [ee _ _ _ (by omega) (by omega), rd_ne (Or.inl (by omega))]; exact this
  · rw [z _ 1 (by omega)] at hx
    have := c4 x h0 hx
    rw [ee _ _ _ (by omega) (by omega)] at this
    rw [ee _ _ _ (by omega) (by omega), rd_ne (Or.inl (by omega))]; exact this
  · have := c5 k hk
    rw [ee _ _ _ (by omega) (by omega)] at this
    rw [ee _ _ _ (by omega) (by omega), rd_ne (Or.inl (by omega))]; exact this
  · rw [tW_0] at hw
    have := c6 w g hw hg
    by_cases q : w = (T 0 2).toNat
    · rw [q, tW_w] at this
      rw [q, tW_w]
      by_cases q2 : g = f
      · rw [q2, rd_same, if_pos rfl]
      · rw [rd_ne (Or.inr q2), if_neg q2]; exact this
    · rw [tW_o (by omega) (by omega)] at this
      rw [tW_o (by omega) (by omega), rd_ne (Or.inl (by omega))]; exact this
  · rw [z _ 0 (by omega)] at hx
    rw [rd_ne (Or.inl (by omega))]; exact s0 x h0 hx
  · rw [z _ 1 (by omega)] at hx
    rw [rd_ne (Or.inl (by omega))]; exact s1 x h0 hx
  · rw [tW_0] at hx
    rw [rd_ne (Or.inl (by omega))]; exact s2 x h0 hx
  · rw [tW_0] at hx
    rw [rd_ne (Or.inl (by omega))]; exact s3 x h0 hx
  · rw [rd_ne (Or.inl (by omega))]; exact s4
theorem c165 (g : CG M b tl e) (dd : CDr M (tW T (vV k m t o d w h 0)) (sW T S)) (hI : InvT T) (hN : InvT (tW T (vV k m t o d w h 0))) (h2 : T 0 2 < 6) (a2 x3 x4 x5 x6 x7 : Int32) : p_X4_readWork_165 M a2 x3 x4 x5 x6 x7 (iI (T 0 2)) ∧ CRs (w_X4_readWork_165 M a2 x3 x4 x5 x6 x7 (iI (T 0 2))) b tl (A165 b tl T S k m t o d w h e) ∧ Fq qD M (w_X4_readWork_165 M a2 x3 x4 x5 x6 x7 (iI (T 0 2))) := by
  have c := hI.1
  obtain ⟨n1, n2, n3, n4⟩ := g.num (lo := 1) (hi := 99) (by omega) (by omega)
  have nn : Int32.toNatClampNeg (iI (T 0 2)) = (T 0 2).toNat := iI_nat (by omega) (by omega)
  have v6 : vp_in (iI (T 0 2)) 6 := vin_iI (by omega) (by omega) (by omega)
  unfold p_X4_readWork_165 w_X4_readWork_165 A165
  rw [cl1, cl99, nn]
  generalize hD : w_X4_readNumber M (iI 1) (iI 99) = D at n2 n3 n4
  have F : ∀ v, Fq (fun a k => a = 310 + (T 0 2).toNat) D (wi D (310 + (T 0 2).toNat) 7 v) := fun v => Fq.wi Fq.rf rfl
  have F2 : ∀ v, Fq qD M (wi D (310 + (T 0 2).toNat) 7 v) := fun v => (n4.mono qCD).tr ((F v).mono (fun a k u => Or.inr (Or.inl (by omega))))
  refine ⟨⟨v6, n1, trivial⟩, ?_, F2 _⟩
  by_cases c8 : numOk b tl e 1 99
  · obtain ⟨r1, g1⟩ := n2 c8
    rw [aN_t c8, r1]
    refine ⟨g1.fq (F _) (fun k => by omega) (fun k => by omega), ?_⟩
    have := cdr_set (f := 7) (v := tkV b tl e) (dd.fc hN n4) hI h2
    rw [vV7] at this
    exact this
  · obtain ⟨r1, g1⟩ := n3 c8
    rw [aN_f c8]
    exact g1.fq (F _) (fun k => by omega) (fun k => by omega)
theorem c145 (g : CG M b tl e) (dd : CDr M (tW T (vV k m t o d w h 0)) (sW T S)) (hI : InvT T) (hN : InvT (tW T (vV k m t o d w h 0))) (h2 : T 0 2 < 6) (a2 x3 x4 x5 x6 x7 : Int32) : p_X4_readWork_145 M a2 x3 x4 x5 x6 x7 (iI (T 0 2)) ∧ CRs (w_X4_readWork_145 M a2 x3 x4 x5 x6 x7 (iI (T 0 2))) b tl (A145 b tl T S k m t o d w h e) ∧ Fq qD M (w_X4_readWork_145 M a2 x3 x4 x5 x6 x7 (iI (T 0 2))) := by
  obtain ⟨i1, i2⟩ := g.isw (i := 16) (by omega) (by omega)
  rw [wdv_v.2.2.2.2.2] at i2
  unfold p_X4_readWork_145 w_X4_readWork_145 A145
  rw [if_neg g.neg, if_neg g.neg]
  by_cases c8 : isW b tl e 335207579
  · have q : ¬ r_X4_isWord M 16 = 0 := fun u => i2.mp u c8
    obtain ⟨a1, g1, n4⟩ := g.adv
    rw [if_neg q, if_neg q, if_pos c8]
    obtain ⟨y1, y2, y3⟩ := c165 g1 (dd.fc hN n4) hI hN h2 a2 x3 x4 x5 x6 x7
    exact ⟨⟨i1, a1, y1⟩, y2, (n4.mono qCD).tr y3⟩
  · have q := i2.mpr c8
    rw [if_pos q, if_pos q, if_neg c8]
    exact ⟨⟨i1, trivial⟩, ⟨g, dd⟩, Fq.rf⟩
theorem c126 (g : CG M b tl e) (dd : CDr M (tW T (vV k m t o d w (-1) 0)) (sW T S)) (hI : InvT T) (hN : ∀ h : Int, -1 ≤ h → h < T 0 2 → InvT (tW T (vV k m t o d w h 0))) (h2 : T 0 2 < 6) (a2 x3 x4 x5 x6 x7 : Int32) : p_X4_readWork_126 M a2 x3 x4 x5 x6 x7 (iI (T 0 2)) ∧ CRs (w_X4_readWork_126 M a2 x3 x4 x5 x6 x7 (iI (T 0 2))) b tl (A126 b tl T S k m t o d w e) ∧ Fq qD M (w_X4_readWork_126 M a2 x3 x4 x5 x6 x7 (iI (T 0 2))) := by
  have c := hI.1
  obtain ⟨n1, n2, n3, n4⟩ := g.num (lo := 0) (hi := T 0 2 - 1) (by omega) (by omega)
  have nn : Int32.toNatClampNeg (iI (T 0 2)) = (T 0 2).toNat := iI_nat (by omega) (by omega)
  have v6 : vp_in (iI (T 0 2)) 6 := vin_iI (by omega) (by omega) (by omega)
  have e1 : iI (T 0 2) - 1 = iI (T 0 2 - 1) := by rw [cl1, iI_sub]
  unfold p_X4_readWork_126 w_X4_readWork_126 A126
  rw [cl0, nn, e1]
  generalize hD : w_X4_readNumber M (iI 0) (iI (T 0 2 - 1)) = D at n2 n3 n4
  have F : ∀ v, Fq (fun a k => a = 310 + (T 0 2).toNat) D (wi D (310 + (T 0 2).toNat) 6 v) := fun v => Fq.wi Fq.rf rfl
  have F2 : ∀ v, Fq qD M (wi D (310 + (T 0 2).toNat) 6 v) := fun v => (n4.mono qCD).tr ((F v).mono (fun a k u => Or.inr (Or.inl (by omega))))
  by_cases c8 : numOk b tl e 0 (T 0 2 - 1)
  · obtain ⟨r1, g1⟩ := n2 c8
    rw [aN_t c8, r1]
    have hb := c8.2
    have d1 := cdr_set (f := 6) (v := tkV b tl e) (dd.fc (hN (-1) (by omega) (by omega)) n4) hI h2
    rw [vV6] at d1
    obtain ⟨y1, y2, y3⟩ := c145 (g1.fq (F (iI (tkV b tl e))) (fun k => by omega) (fun k => by omega)) d1 hI (hN _ (by omega) (by omega)) h2 a2 x3 x4 x5 x6 x7
    exact ⟨⟨v6, n1, y1⟩, y2, (F2 _).tr y3⟩
  · obtain ⟨r1, g1⟩ := n3 c8
    rw [aN_f c8]
    have g2 := g1.fq (F (r_X4_readNumber M (iI 0) (iI (T 0 2 - 1)))) (fun k => by omega) (fun k => by omega)
    unfold p_X4_readWork_145 w_X4_readWork_145
    rw [if_pos g2.pos, if_pos g2.pos]
    exact ⟨⟨v6, n1, trivial⟩, g2, F2 _⟩
theorem c113 (g : CG M b tl e) (dd : CDr M (tW T (vV k m t o d w (-1) 0)) (sW T S)) (hI : InvT T) (hN : ∀ h : Int, -1 ≤ h → h < T 0 2 → InvT (tW T (vV k m t o d w h 0))) (h2 : T 0 2 < 6) (a2 x3 x4 x5 x6 x7 : Int32) : p_X4_readWork_113 M a2 x3 x4 x5 x6 x7 (iI (T 0 2)) ∧ CRs (w_X4_readWork_113 M a2 x3 x4 x5 x6 x7 (iI (T 0 2))) b tl (A113 b tl T S k m t o d w e) ∧ Fq qD M (w_X4_readWork_113 M a2 x3 x4 x5 x6 x7 (iI (T 0 2))) := by
  have c := hI.1
  obtain ⟨i1, i2⟩ := g.isw (i := 15) (by omega) (by omega)
  rw [wdv_v.2.2.2.2.1] at i2
  unfold p_X4_readWork_113 w_X4_readWork_113 A113
  by_cases c8 : isW b tl e 31519426
  · have q : ¬ r_X4_isWord M 15 = 0 := fun u => i2.mp u c8
    obtain ⟨a1, g1, n4⟩ := g.adv
    rw [if_neg q, if_neg q, if_pos c8]
    obtain ⟨y1, y2, y3⟩ := c126 g1 (dd.fc (hN (-1) (by omega) (by omega)) n4) hI hN h2 a2 x3 x4 x5 x6 x7
    exact ⟨⟨i1, a1, y1⟩, y2, (n4.mono qCD).tr y3⟩
  · have q := i2.mpr c8
    rw [if_pos q, if_pos q, if_neg c8]
    exact ⟨⟨i1, trivial⟩, ⟨g, dd⟩, Fq.rf⟩
theorem c_addWd {n : Nat} (hw : n < 6) (h2 : M.1 300 2 = iI (n : Int)) : p_X5_addWork_300 M (iI k) (iI m) (iI t) (iI o) (iI d) (iI w) ∧ r_X5_addWork_300 M (iI k) (iI m) (iI t) (iI o) (iI d) (iI w) = iI (n : Int) + 1 - 1 ∧
    (∀ f, f < 8 → (w_X5_addWork_300 M (iI k) (iI m) (iI t) (iI o) (iI d) (iI w)).1 (310 + n) f = iI (vV k m t o d w (-1) 0 f)) ∧ (w_X5_addWork_300 M (iI k) (iI m) (iI t) (iI o) (iI d) (iI w)).1 1023 n = iI 0 ∧ (w_X5_addWork_300 M (iI k) (iI m) (iI t) (iI o) (iI d) (iI w)).1 1024 n = iI 0 ∧ (w_X5_addWork_300 M (iI k) (iI m) (iI t) (iI o) (iI d) (iI w)).1 300 2 = iI (n : Int) + 1 ∧
    Fp (fun a k => a = 310 + n ∨ (a = 1023 ∧ k = n) ∨ (a = 1024 ∧ k = n) ∨ (a = 300 ∧ k = 2)) M (w_X5_addWork_300 M (iI k) (iI m) (iI t) (iI o) (iI d) (iI w)) := by
  have nw : Int32.toNatClampNeg (iI (n : Int)) = n := natk rfl (by omega)
  unfold p_X5_addWork_300 r_X5_addWork_300 w_X5_addWork_300
  rw [h2, nw]
  obtain ⟨M8, hM8⟩ : ∃ M8, M8 = wi (wi (wi (wi (wi (wi (wi (wi M (310 + n) 0 (iI k)) (310 + n) 1 (iI m)) (310 + n) 2 (iI t)) (310 + n) 3 (iI o)) (310 + n) 4 (iI d)) (310 + n) 5 (iI w)) (310 + n) 6 (-1)) (310 + n) 7 0 := ⟨_, rfl⟩
  rw [← hM8]
  have F8 : Fp (fun a k => a = 310 + n) M M8 := by
    rw [hM8]
    exact Fp.wi (Fp.wi (Fp.wi (Fp.wi (Fp.wi (Fp.wi (Fp.wi (Fp.wi Fp.rf rfl) rfl) rfl) rfl) rfl) rfl) rfl) rfl
  have e2 : M8.1 300 2 = iI (n : Int) := by rw [(F8 _ _ (by omega)).1]; exact h2
  have fV : ∀ f, f < 8 → M8.1 (310 + n) f = iI (vV k m t o d w (-1) 0 f) := by rw [hM8]; exact wr8c M (310 + n) k m t o d w
  clear hM8
  rw [e2, nw]
  have w6 : vp_in (iI (n : Int)) 6 := vin_iI (by omega) (by omega) (by omega)
  refine ⟨⟨w6, w6, w6, trivial⟩, rfl, fun f hf => ?_, ?_, ?_, ?_, ?_⟩
  · rw [rd_ne (Or.inl (by omega)), rd_ne (Or.inl (by omega)), rd_ne (Or.inl (by omega))]; exact fV f hf
  · rw [rd_ne (Or.inl (by omega)), rd_ne (Or.inl (by omega)), rd_same]; rfl
  · rw [rd_ne (Or.inl (by omega)), rd_same]; rfl
  · rw [rd_same]
  · exact Fp.wi (Fp.wi (Fp.wi (F8.mono (fun a k h => Or.inl h)) (by omega)) (by omega)) (by omega)
theorem c89 (g : CG M b tl e) (dd : CDr M T S) (hI : InvT T) (hN : ∀ h : Int, -1 ≤ h → h < T 0 2 → InvT (tW T (vV k m t o d w h 0))) (h2 : T 0 2 < 6) : p_X4_readWork_89 M (iI k) (iI m) (iI t) (iI o) (iI d) (iI w) ∧ CRs (w_X4_readWork_89 M (iI k) (iI m) (iI t) (iI o) (iI d) (iI w)) b tl (A113 b tl T S k m t o d w e) ∧ Fq qD M (w_X4_readWork_89 M (iI k) (iI m) (iI t) (iI o) (iI d) (iI w)) := by
  have c := hI.1
  have q : M.1 500 5 < 0 := by rw [g.2.2.2]; decide
  obtain ⟨n, hn⟩ : ∃ n : Nat, n = (T 0 2).toNat := ⟨_, rfl⟩
  have en : T 0 2 = (n : Int) := by omega
  obtain ⟨y1, y2, y3, y4, y5, y6, y7⟩ := c_addWd (M := M) (k := k) (m := m) (t := t) (o := o) (d := d) (w := w) (n := n) (by omega) (by rw [← en]; exact dd.1.1.2.2)
  have er : iI (n : Int) + 1 - 1 = iI (T 0 2) := by rw [cl1, iI_add, iI_sub, en]; congr 1; omega
  have e6 : iI (n : Int) + 1 = iI (T 0 2 + 1) := by rw [cl1, iI_add, en]
  rw [er] at y2
  rw [e6] at y6
  unfold p_X4_readWork_89 w_X4_readWork_89 p_X4_readWork_97 w_X4_readWork_97
  rw [if_pos q, if_pos q, y2]
  generalize w_X5_addWork_300 M (iI k) (iI m) (iI t) (iI o) (iI d) (iI w) = D at y3 y4 y5 y6 y7
  have F : Fq (fun a k => a = 310 + n ∨ (a = 1023 ∧ k = n) ∨ (a = 1024 ∧ k = n) ∨ (a = 300 ∧ k = 2)) M D := y7.q (fun a k u => by omega)
  have d1 : CDr D (tW T (vV k m t o d w (-1) 0)) (sW T S) := c_addW dd.1 dd.2 hI h2 (by omega) (by rw [← hn]; exact y3) (by rw [← hn]; exact y4) (by rw [← hn]; exact y5) y6 (fun a k _ u => F.1 a k (by rw [← hn] at u; exact u))
  obtain ⟨z1, z2, z3⟩ := c113 (g.fq F (fun k => by omega) (fun k => by omega)) d1 hI hN h2 (iI k) (iI m) (iI t) (iI o) (iI d) (iI w)
  exact ⟨⟨y1, z1⟩, z2, (F.mono (fun a k u => by show _ ∨ _ ∨ _; omega)).tr z3⟩
theorem CF.nlt (g : CF M b tl p) : ¬ M.1 500 5 < 0 := by
  have := g.2.1
  rw [g.2.2, cl0, iI_lt (by omega) (by omega) (by omega) (by omega)]
  omega
theorem f89 (g : CF M b tl p) (a2 x3 x4 x5 x6 x7 : Int32) : p_X4_readWork_89 M a2 x3 x4 x5 x6 x7 ∧ w_X4_readWork_89 M a2 x3 x4 x5 x6 x7 = M := by
  unfold p_X4_readWork_89 w_X4_readWork_89
  rw [if_neg g.nlt, if_neg g.nlt]
  exact ⟨trivial, rfl⟩
theorem f80 (g : CF M b tl p) (a2 x3 x4 x5 x6 : Int32) : p_X4_readWork_80 M a2 x3 x4 x5 x6 ∧ w_X4_readWork_80 M a2 x3 x4 x5 x6 = M := by
  unfold p_X4_readWork_80 w_X4_readWork_80
  obtain ⟨y1, y2⟩ := g.num (0 : Int32) (99 : Int32)
  rw [y2]
  obtain ⟨z1, z2⟩ := f89 g a2 x3 x4 x5 x6 _
  exact ⟨⟨y1, z1⟩, z2⟩
theorem c80 (g : CG M b tl e) (dd : CDr M T S) (hv : Iv T S) (h2 : T 0 2 < 6) (hk : 0 ≤ k ∧ k ≤ 5) (hm : 0 ≤ m ∧ m < T 0 0) (ht : 0 ≤ t ∧ t < T 0 1) (ho : 0 ≤ o ∧ o ≤ 9) (hd : 0 ≤ d ∧ d ≤ 999) : p_X4_readWork_80 M (iI k) (iI m) (iI t) (iI o) (iI d) ∧ CRs (w_X4_readWork_80 M (iI k) (iI m) (iI t) (iI o) (iI d)) b tl (A80 b tl T S k m t o d e) ∧ Fq qD M (w_X4_readWork_80 M (iI k) (iI m) (iI t) (iI o) (iI d)) := by
  have hI := hv.1
  have hc := hI.1
  obtain ⟨n1, n2, n3, n4⟩ := g.num (lo := 0) (hi := 99) (by omega) (by omega)
  unfold p_X4_readWork_80 w_X4_readWork_80 A80
  rw [cl0, cl99]
  by_cases c : numOk b tl e 0 (99)
  · obtain ⟨r1, g1⟩ := n2 c
    rw [aN_t c, r1]
    obtain ⟨y1, y2, y3⟩ := c89 (k := k) (m := m) (t := t) (o := o) (d := d) (w := tkV b tl e) g1 (dd.fc hI n4) hI (fun h u1 u2 => hI.addW h2 ⟨hk, hm, ht, ho, hd, c.2, ⟨u1, u2⟩, by show (0 : Int) ≤ 0 ∧ (0 : Int) ≤ 99; omega⟩) h2
    exact ⟨⟨n1, y1⟩, y2, (n4.mono qCD).tr y3⟩
  · obtain ⟨r1, g1⟩ := n3 c
    rw [aN_f c]
    obtain ⟨y1, y2⟩ := f89 g1 (iI k) (iI m) (iI t) (iI o) (iI d) _
    rw [y2]
    exact ⟨⟨n1, y1⟩, g1, n4.mono qCD⟩
theorem f74 (g : CF M b tl p) (a2 x3 x4 x5 x6 : Int32) : p_X4_readWork_74 M a2 x3 x4 x5 x6 ∧ w_X4_readWork_74 M a2 x3 x4 x5 x6 = M := by
  obtain ⟨y1, y2⟩ := g.wd14
  unfold p_X4_readWork_74 w_X4_readWork_74
  rw [y2]
  obtain ⟨z1, z2⟩ := f80 g a2 x3 x4 x5 x6
  exact ⟨⟨y1, z1⟩, z2⟩
theorem c74 (g : CG M b tl e) (dd : CDr M T S) (hv : Iv T S) (h2 : T 0 2 < 6) (hk : 0 ≤ k ∧ k ≤ 5) (hm : 0 ≤ m ∧ m < T 0 0) (ht : 0 ≤ t ∧ t < T 0 1) (ho : 0 ≤ o ∧ o ≤ 9) (hd : 0 ≤ d ∧ d ≤ 999) : p_X4_readWork_74 M (iI k) (iI m) (iI t) (iI o) (iI d) ∧ CRs (w_X4_readWork_74 M (iI k) (iI m) (iI t) (iI o) (iI d)) b tl (A74 b tl T S k m t o d e) ∧ Fq qD M (w_X4_readWork_74 M (iI k) (iI m) (iI t) (iI o) (iI d)) := by
  have hI := hv.1
  have hc := hI.1
  obtain ⟨n1, n2, n3, n4⟩ := g.wd14
  unfold p_X4_readWork_74 w_X4_readWork_74 A74
  by_cases c : isW b tl e 4797
  · have g1 := n2 c
    rw [aW_t c]
    obtain ⟨y1, y2, y3⟩ := c80 g1 (dd.fc hI n4) hv h2 hk hm ht ho hd
    exact ⟨⟨n1, y1⟩, y2, (n4.mono qCD).tr y3⟩
  · have g1 := n3 c
    rw [aW_f c]
    obtain ⟨y1, y2⟩ := f80 g1 (iI k) (iI m) (iI t) (iI o) (iI d)
    rw [y2]
    exact ⟨⟨n1, y1⟩, g1, n4.mono qCD⟩
theorem f64 (g : CF M b tl p) (a2 x3 x4 x5 : Int32) : p_X4_readWork_64 M a2 x3 x4 x5 ∧ w_X4_readWork_64 M a2 x3 x4 x5 = M := by
  unfold p_X4_readWork_64 w_X4_readWork_64
  obtain ⟨y1, y2⟩ := g.num (0 : Int32) (999 : Int32)
  rw [y2]
  obtain ⟨z1, z2⟩ := f74 g a2 x3 x4 x5 _
  exact ⟨⟨y1, z1⟩, z2⟩
theorem c64 (g : CG M b tl e) (dd : CDr M T S) (hv : Iv T S) (h2 : T 0 2 < 6) (hk : 0 ≤ k ∧ k ≤ 5) (hm : 0 ≤ m ∧ m < T 0 0) (ht : 0 ≤ t ∧ t < T 0 1) (ho : 0 ≤ o ∧ o ≤ 9) : p_X4_readWork_64 M (iI k) (iI m) (iI t) (iI o) ∧ CRs (w_X4_readWork_64 M (iI k) (iI m) (iI t) (iI o)) b tl (A64 b tl T S k m t o e) ∧ Fq qD M (w_X4_readWork_64 M (iI k) (iI m) (iI t) (iI o)) := by
  have hI := hv.1
  have hc := hI.1
  obtain ⟨n1, n2, n3, n4⟩ := g.num (lo := 0) (hi := 999) (by omega) (by omega)
  unfold p_X4_readWork_64 w_X4_readWork_64 A64
  rw [cl0, cl999]
  by_cases c : numOk b tl e 0 (999)
  · obtain ⟨r1, g1⟩ := n2 c
    rw [aN_t c, r1]
    obtain ⟨y1, y2, y3⟩ := c74 (d := tkV b tl e) g1 (dd.fc hI n4) hv h2 hk hm ht ho (by have := c.2; omega)
    exact ⟨⟨n1, y1⟩, y2, (n4.mono qCD).tr y3⟩
  · obtain ⟨r1, g1⟩ := n3 c
    rw [aN_f c]
    obtain ⟨y1, y2⟩ := f74 g1 (iI k) (iI m) (iI t) (iI o) _
    rw [y2]
    exact ⟨⟨n1, y1⟩, g1, n4.mono qCD⟩
theorem f58 (g : CF M b tl p) (a2 x3 x4 x5 : Int32) : p_X4_readWork_58 M a2 x3 x4 x5 ∧ w_X4_readWork_58 M a2 x3 x4 x5 = M := by
  obtain ⟨y1, y2⟩ := g.wd13
  unfold p_X4_readWork_58 w_X4_readWork_58
  rw [y2]
  obtain ⟨z1, z2⟩ := f64 g a2 x3 x4 x5
  exact ⟨⟨y1, z1⟩, z2⟩
theorem c58 (g : CG M b tl e) (dd : CDr M T S) (hv : Iv T S) (h2 : T 0 2 < 6) (hk : 0 ≤ k ∧ k ≤ 5) (hm : 0 ≤ m ∧ m < T 0 0) (ht : 0 ≤ t ∧ t < T 0 1) (ho : 0 ≤ o ∧ o ≤ 9) : p_X4_readWork_58 M (iI k) (iI m) (iI t) (iI o) ∧ CRs (w_X4_readWork_58 M (iI k) (iI m) (iI t) (iI o)) b tl (A58 b tl T S k m t o e) ∧ Fq qD M (w_X4_readWork_58 M (iI k) (iI m) (iI t) (iI o)) := by
  have hI := hv.1
  have hc := hI.1
  obtain ⟨n1, n2, n3, n4⟩ := g.wd13
  unfold p_X4_readWork_58 w_X4_readWork_58 A58
  by_cases c : isW b tl e 79
  · have g1 := n2 c
    rw [aW_t c]
    obtain ⟨y1, y2, y3⟩ := c64 g1 (dd.fc hI n4) hv h2 hk hm ht ho
    exact ⟨⟨n1, y1⟩, y2, (n4.mono qCD).tr y3⟩
  · have g1 := n3 c
    rw [aW_f c]
    obtain ⟨y1, y2⟩ := f64 g1 (iI k) (iI m) (iI t) (iI o)
    rw [y2]
    exact ⟨⟨n1, y1⟩, g1, n4.mono qCD⟩
theorem f49 (g : CF M b tl p) (a2 x3 x4 : Int32) : p_X4_readWork_49 M a2 x3 x4 ∧ w_X4_readWork_49 M a2 x3 x4 = M := by
  unfold p_X4_readWork_49 w_X4_readWork_49
  obtain ⟨y1, y2⟩ := g.num (0 : Int32) (9 : Int32)
  rw [y2]
  obtain ⟨z1, z2⟩ := f58 g a2 x3 x4 _
  exact ⟨⟨y1, z1⟩, z2⟩
theorem c49 (g : CG M b tl e) (dd : CDr M T S) (hv : Iv T S) (h2 : T 0 2 < 6) (hk : 0 ≤ k ∧ k ≤ 5) (hm : 0 ≤ m ∧ m < T 0 0) (ht : 0 ≤ t ∧ t < T 0 1) : p_X4_readWork_49 M (iI k) (iI m) (iI t) ∧ CRs (w_X4_readWork_49 M (iI k) (iI m) (iI t)) b tl (A49 b tl T S k m t e) ∧ Fq qD M (w_X4_readWork_49 M (iI k) (iI m) (iI t)) := by
  have hI := hv.1
  have hc := hI.1
  obtain ⟨n1, n2, n3, n4⟩ := g.num (lo := 0) (hi := 9) (by omega) (by omega)
  unfold p_X4_readWork_49 w_X4_readWork_49 A49
  rw [cl0, cl9]
  by_cases c : numOk b tl e 0 (9)
  · obtain ⟨r1, g1⟩ := n2 c
    rw [aN_t c, r1]
    obtain ⟨y1, y2, y3⟩ := c58 (o := tkV b tl e) g1 (dd.fc hI n4) hv h2 hk hm ht (by have := c.2; omega)
    exact ⟨⟨n1, y1⟩, y2, (n4.mono qCD).tr y3⟩
  · obtain ⟨r1, g1⟩ := n3 c
    rw [aN_f c]
    obtain ⟨y1, y2⟩ := f58 g1 (iI k) (iI m) (iI t) _
    rw [y2]
    exact ⟨⟨n1, y1⟩, g1, n4.mono qCD⟩
theorem f43 (g : CF M b tl p) (a2 x3 x4 : Int32) : p_X4_readWork_43 M a2 x3 x4 ∧ w_X4_readWork_43 M a2 x3 x4 = M := by
  obtain ⟨y1, y2⟩ := g.wd12
  unfold p_X4_readWork_43 w_X4_readWork_43
  rw [y2]
  obtain ⟨z1, z2⟩ := f49 g a2 x3 x4
  exact ⟨⟨y1, z1⟩, z2⟩
theorem c43 (g : CG M b tl e) (dd : CDr M T S) (hv : Iv T S) (h2 : T 0 2 < 6) (hk : 0 ≤ k ∧ k ≤ 5) (hm : 0 ≤ m ∧ m < T 0 0) (ht : 0 ≤ t ∧ t < T 0 1) : p_X4_readWork_43 M (iI k) (iI m) (iI t) ∧ CRs (w_X4_readWork_43 M (iI k) (iI m) (iI t)) b tl (A43 b tl T S k m t e) ∧ Fq qD M (w_X4_readWork_43 M (iI k) (iI m) (iI t)) := by
  have hI := hv.1
  have hc := hI.1
  obtain ⟨n1, n2, n3, n4⟩ := g.wd12
  unfold p_X4_readWork_43 w_X4_readWork_43 A43
  by_cases c : isW b tl e 555
  · have g1 := n2 c
    rw [aW_t c]
    obtain ⟨y1, y2, y3⟩ := c49 g1 (dd.fc hI n4) hv h2 hk hm ht
    exact ⟨⟨n1, y1⟩, y2, (n4.mono qCD).tr y3⟩
  · have g1 := n3 c
    rw [aW_f c]
    obtain ⟨y1, y2⟩ := f49 g1 (iI k) (iI m) (iI t)
    rw [y2]
    exact ⟨⟨n1, y1⟩, g1, n4.mono qCD⟩
theorem f30 (g : CF M b tl p) (a2 x3 : Int32) : p_X4_readWork_30 M a2 x3 ∧ w_X4_readWork_30 M a2 x3 = M := by
  unfold p_X4_readWork_30 w_X4_readWork_30
  obtain ⟨y1, y2⟩ := g.num (0 : Int32) (M.1 300 1 - 1)
  rw [y2]
  obtain ⟨z1, z2⟩ := f43 g a2 x3 _
  exact ⟨⟨y1, z1⟩, z2⟩
theorem c30 (g : CG M b tl e) (dd : CDr M T S) (hv : Iv T S) (h2 : T 0 2 < 6) (hk : 0 ≤ k ∧ k ≤ 5) (hm : 0 ≤ m ∧ m < T 0 0) : p_X4_readWork_30 M (iI k) (iI m) ∧ CRs (w_X4_readWork_30 M (iI k) (iI m)) b tl (A30 b tl T S k m e) ∧ Fq qD M (w_X4_readWork_30 M (iI k) (iI m)) := by
  have hI := hv.1
  have hc := hI.1
  obtain ⟨n1, n2, n3, n4⟩ := g.num (lo := 0) (hi := T 0 1 - 1) (by omega) (by omega)
  unfold p_X4_readWork_30 w_X4_readWork_30 A30
  rw [dd.1.1.2.1, cl0, cl1, iI_sub]
  by_cases c : numOk b tl e 0 (T 0 1 - 1)
  · obtain ⟨r1, g1⟩ := n2 c
    rw [aN_t c, r1]
    obtain ⟨y1, y2, y3⟩ := c43 (t := tkV b tl e) g1 (dd.fc hI n4) hv h2 hk hm (by have := c.2; omega)
    exact ⟨⟨n1, y1⟩, y2, (n4.mono qCD).tr y3⟩
  · obtain ⟨r1, g1⟩ := n3 c
    rw [aN_f c]
    obtain ⟨y1, y2⟩ := f43 g1 (iI k) (iI m) _
    rw [y2]
    exact ⟨⟨n1, y1⟩, g1, n4.mono qCD⟩
theorem f18 (g : CF M b tl p) (a2 : Int32) : p_X4_readWork_18 M a2 ∧ w_X4_readWork_18 M a2 = M := by
  unfold p_X4_readWork_18 w_X4_readWork_18
  obtain ⟨y1, y2⟩ := g.num (0 : Int32) (M.1 300 0 - 1)
  rw [y2]
  obtain ⟨z1, z2⟩ := f30 g a2 _
  exact ⟨⟨y1, z1⟩, z2⟩
theorem c18 (g : CG M b tl e) (dd : CDr M T S) (hv : Iv T S) (h2 : T 0 2 < 6) (hk : 0 ≤ k ∧ k ≤ 5) : p_X4_readWork_18 M (iI k) ∧ CRs (w_X4_readWork_18 M (iI k)) b tl (A18 b tl T S k e) ∧ Fq qD M (w_X4_readWork_18 M (iI k)) := by
  have hI := hv.1
  have hc := hI.1
  obtain ⟨n1, n2, n3, n4⟩ := g.num (lo := 0) (hi := T 0 0 - 1) (by omega) (by omega)
  unfold p_X4_readWork_18 w_X4_readWork_18 A18
  rw [dd.1.1.1, cl0, cl1, iI_sub]
  by_cases c : numOk b tl e 0 (T 0 0 - 1)
  · obtain ⟨r1, g1⟩ := n2 c
    rw [aN_t c, r1]
    obtain ⟨y1, y2, y3⟩ := c30 (m := tkV b tl e) g1 (dd.fc hI n4) hv h2 hk (by have := c.2; omega)
    exact ⟨⟨n1, y1⟩, y2, (n4.mono qCD).tr y3⟩
  · obtain ⟨r1, g1⟩ := n3 c
    rw [aN_f c]
    obtain ⟨y1, y2⟩ := f30 g1 (iI k) _
    rw [y2]
    exact ⟨⟨n1, y1⟩, g1, n4.mono qCD⟩
theorem c_work (g : CG M b tl e) (dd : CDr M T S) (hv : Iv T S) (hk : 0 ≤ k ∧ k ≤ 5) : p_X4_readWork M (iI k) ∧ CRs (w_X4_readWork M (iI k)) b tl (AWk b tl T S k e) ∧ Fq qD M (w_X4_readWork M (iI k)) := by
  have hc := hv.1.1
  have q : (M.1 300 2 < (6 : Int32)) ↔ T 0 2 < 6 := by rw [dd.1.1.2.2, cl6, iI_lt (by omega) (by omega) (by omega) (by omega)]
  unfold p_X4_readWork w_X4_readWork AWk
  by_cases h2 : T 0 2 < 6
  · rw [if_pos (q.mpr h2), if_pos (q.mpr h2), if_pos h2]
    obtain ⟨a1, g1, n4⟩ := g.adv
    obtain ⟨y1, y2, y3⟩ := c18 g1 (dd.fc hv.1 n4) hv h2 hk
    exact ⟨⟨a1, y1⟩, y2, (n4.mono qCD).tr y3⟩
  · have q' : ¬ M.1 300 2 < (6 : Int32) := fun u => h2 (q.mp u)
    rw [if_neg q', if_neg q', if_neg h2, g.fail]
    exact ⟨trivial, g.fl.1, g.fl.2.mono qCD⟩
end PA5
