/-! a work read: the reference -/
def RDr (M : Mm) (T S : Tw) : Prop := (M.1 600 22 = iI (T 0 0) ∧ M.1 600 23 = iI (T 0 1) ∧ M.1 600 24 = iI (T 0 2)) ∧ (∀ x : Int, 0 ≤ x → x < T 0 0 → M.1 610 (2 * x.toNat) = iI (S 0 x.toNat) ∧ M.1 610 (2 * x.toNat + 1) = iI (T 1 x.toNat)) ∧ (∀ x : Int, 0 ≤ x → x < T 0 1 → M.1 611 (2 * x.toNat) = iI (S 1 x.toNat) ∧ M.1 611 (2 * x.toNat + 1) = iI (T 2 x.toNat)) ∧ (∀ k, k < 4 → M.1 613 k = iI (T 3 k)) ∧ (∀ (w f : Nat), (w : Int) < T 0 2 → f < 8 → M.1 612 (8 * w + f) = iI (T (10 + w) f))
def RRs (M : Mm) (b : Nat → Int) (tl : Nat) : Rr → Prop
  | .inl p => RF M p
  | .inr (e, T, S) => RG M b tl e ∧ RDr M T S
abbrev qR (a k : Nat) : Prop := (a = 600 ∧ 16 ≤ k ∧ k ≤ 24) ∨ (610 ≤ a ∧ a ≤ 613)
theorem qVR (a k : Nat) (h : qV a k) : qR a k := Or.inl ⟨h.1, h.2.1, Nat.le_trans h.2.2 (by omega)⟩
theorem wr8v (M : Mm) (a p : Nat) (v0 v1 v2 v3 v4 v5 v6 v7 : Int) : ∀ f, f < 8 → (wi (wi (wi (wi (wi (wi (wi (wi M a (p + 0) (iI v0)) a (p + 1) (iI v1)) a (p + 2) (iI v2)) a (p + 3) (iI v3)) a (p + 4) (iI v4)) a (p + 5) (iI v5)) a (p + 6) (iI v6)) a (p + 7) (iI v7)).1 a (p + f) = iI (vV v0 v1 v2 v3 v4 v5 v6 v7 f) := by
  intro f hf
  have hk : f = 0 ∨ f = 1 ∨ f = 2 ∨ f = 3 ∨ f = 4 ∨ f = 5 ∨ f = 6 ∨ f = 7 := by omega
  rcases hk with rfl | rfl | rfl | rfl | rfl | rfl | rfl | rfl
  · rw [rd_ne (Or.inr (by omega)), rd_ne (Or.inr (by omega)), rd_ne (Or.inr (by omega)), rd_ne (Or.inr (by omega)), rd_ne (Or.inr (by omega)), rd_ne (Or.inr (by omega)), rd_ne (Or.inr (by omega)), rd_same]; rfl
  · rw [rd_ne (Or.inr (by omega)), rd_ne (Or.inr (by omega)), rd_ne (Or.inr (by omega)), rd_ne (Or.inr (by omega)), rd_ne (Or.inr (by omega)), rd_ne (Or.inr (by omega)), rd_same]; rfl
  · rw [rd_ne (Or.inr (by omega)), rd_ne (Or.inr (by omega)), rd_ne (Or.inr (by omega)), rd_ne (Or.inr (by omega)), rd_ne (Or.inr (by omega)), rd_same]; rfl
  · rw [rd_ne (Or.inr (by omega)), rd_ne (Or.inr (by omega)), rd_ne (Or.inr (by omega)), rd_ne (Or.inr (by omega)), rd_same]; rfl
  · rw [rd_ne (Or.inr (by omega)), rd_ne (Or.inr (by omega)), rd_ne (Or.inr (by omega)), rd_same]; rfl
  · rw [rd_ne (Or.inr (by omega)), rd_ne (Or.inr (by omega)), rd_same]; rfl
  · rw [rd_ne (Or.inr (by omega)), rd_same]; rfl
  · rw [rd_same]; rfl
section PA7
variable {M M' : Mm} {b : Nat → Int} {tl e p : Nat} {T S : Tw} {k m t o d w h x : Int}
theorem RDr.fq {Q : Nat → Nat → Prop} (dd : RDr M T S) (F : Fq Q M M') (h1 : ∀ a k, (a = 600 ∧ 22 ≤ k ∧ k ≤ 24) ∨ (610 ≤ a ∧ a ≤ 613) → ¬ Q a k) : RDr M' T S := by
  obtain ⟨⟨c0, c1, c2⟩, c3, c4, c5, c6⟩ := dd
  refine ⟨⟨?_, ?_, ?_⟩, fun x h0 hx => ⟨?_, ?_⟩, fun x h0 hx => ⟨?_, ?_⟩, fun j hj => ?_, fun w g hw hg => ?_⟩
  · rw [F.1 _ _ (h1 _ _ (by omega))]; exact c0
  · rw [F.1 _ _ (h1 _ _ (by omega))]; exact c1
  · rw [F.1 _ _ (h1 _ _ (by omega))]; exact c2
  · rw [F.1 _ _ (h1 _ _ (by omega))]; exact (c3 x h0 hx).1
  · rw [F.1 _ _ (h1 _ _ (by omega))]; exact (c3 x h0 hx).2
  · rw [F.1 _ _ (h1 _ _ (by omega))]; exact (c4 x h0 hx).1
  · rw [F.1 _ _ (h1 _ _ (by omega))]; exact (c4 x h0 hx).2
  · rw [F.1 _ _ (h1 _ _ (by omega))]; exact c5 j hj
  · rw [F.1 _ _ (h1 _ _ (by omega))]; exact c6 w g hw hg
theorem RDr.fv (dd : RDr M T S) (F : Fq qV M M') : RDr M' T S := dd.fq F (fun a k u => by show ¬ (_ ∧ _); omega)
theorem r176 (g : RG M b tl e) (dd : RDr M T S) (hI : InvT T) (h2 : T 0 2 < 6) : p_X8_wantWork_176 M (iI k) (iI m) (iI t) (iI o) (iI d) (iI w) (iI h) (iI x) ∧ RRs (w_X8_wantWork_176 M (iI k) (iI m) (iI t) (iI o) (iI d) (iI w) (iI h) (iI x)) b tl (.inr (e, tW T (vV k m t o d w h x), sW T S)) ∧ Fq qR M (w_X8_wantWork_176 M (iI k) (iI m) (iI t) (iI o) (iI d) (iI w) (iI h) (iI x)) := by
  have hc := hI.1
  obtain ⟨n, hn⟩ : ∃ n : Nat, n = (T 0 2).toNat := ⟨_, rfl⟩
  have en : T 0 2 = (n : Int) := by omega
  have i2 : M.1 600 24 = iI (n : Int) := by rw [← en]; exact dd.1.2.2
  have n8 : ∀ f : Nat, f < 8 → Int32.toNatClampNeg (8 * iI (n : Int) + iI (f : Int)) = 8 * n + f := fun f hf => by rw [cl8, iI_mul, iI_add]; exact natk (by omega) (by omega)
  have w8 : ∀ f : Int, 0 ≤ f → f < 8 → vp_in (8 * iI (n : Int) + iI f) 48 := fun f h0 hf => by rw [cl8, iI_mul, iI_add]; exact vin_iI (by omega) (by omega) (by omega)
  have n80 : Int32.toNatClampNeg (8 * iI (n : Int)) = 8 * n + 0 := by rw [cl8, iI_mul]; exact natk (by omega) (by omega)
  have w80 : vp_in (8 * iI (n : Int)) 48 := by rw [cl8, iI_mul]; exact vin_iI (by omega) (by omega) (by omega)
  have n81 : Int32.toNatClampNeg (8 * iI (n : Int) + 1) = 8 * n + 1 := n8 1 (by omega)
  have n82 : Int32.toNatClampNeg (8 * iI (n : Int) + 2) = 8 * n + 2 := n8 2 (by omega)
  have n83 : Int32.toNatClampNeg (8 * iI (n : Int) + 3) = 8 * n + 3 := n8 3 (by omega)
  have n84 : Int32.toNatClampNeg (8 * iI (n : Int) + 4) = 8 * n + 4 := n8 4 (by omega)
  have n85 : Int32.toNatClampNeg (8 * iI (n : Int) + 5) = 8 * n + 5 := n8 5 (by omega)
  have n86 : Int32.toNatClampNeg (8 * iI (n : Int) + 6) = 8 * n + 6 := n8 6 (by omega)
  have n87 : Int32.toNatClampNeg (8 * iI (n : Int) + 7) = 8 * n + 7 := n8 7 (by omega)
  have hp : p_X8_wantWork_176 M (iI k) (iI m) (iI t) (iI o) (iI d) (iI w) (iI h) (iI x) := by
    unfold p_X8_wantWork_176
    rw [if_neg g.flag, i2]
    exact ⟨w80, w8 1 (by omega) (by omega), w8 2 (by omega) (by omega), w8 3 (by omega) (by omega), w8 4 (by omega) (by omega), w8 5 (by omega) (by omega), w8 6 (by omega) (by omega), w8 7 (by omega) (by omega), trivial⟩
  refine ⟨hp, ?_⟩
  clear hp
  unfold w_X8_wantWork_176
  rw [if_neg g.flag, i2, n80, n81, n82, n83, n84, n85, n86, n87]
  clear n80 n81 n82 n83 n84 n85 n86 n87 w80 n8 w8
  have fV := wr8v M 612 (8 * n) k m t o d w h x
  have F8 : Fq (fun a j => a = 612 ∧ 8 * n ≤ j ∧ j < 8 * n + 8) M (wi (wi (wi (wi (wi (wi (wi (wi M 612 (8 * n + 0) (iI k)) 612 (8 * n + 1) (iI m)) 612 (8 * n + 2) (iI t)) 612 (8 * n + 3) (iI o)) 612 (8 * n + 4) (iI d)) 612 (8 * n + 5) (iI w)) 612 (8 * n + 6) (iI h)) 612 (8 * n + 7) (iI x)) := Fq.wi (Fq.wi (Fq.wi (Fq.wi (Fq.wi (Fq.wi (Fq.wi (Fq.wi Fq.rf (by omega)) (by omega)) (by omega)) (by omega)) (by omega)) (by omega)) (by omega)) (by omega)
  have L8 : (wi (wi (wi (wi (wi (wi (wi (wi M 612 (8 * n + 0) (iI k)) 612 (8 * n + 1) (iI m)) 612 (8 * n + 2) (iI t)) 612 (8 * n + 3) (iI o)) 612 (8 * n + 4) (iI d)) 612 (8 * n + 5) (iI w)) 612 (8 * n + 6) (iI h)) 612 (8 * n + 7) (iI x)).2 = M.2 := rfl
  generalize wi (wi (wi (wi (wi (wi (wi (wi M 612 (8 * n + 0) (iI k)) 612 (8 * n + 1) (iI m)) 612 (8 * n + 2) (iI t)) 612 (8 * n + 3) (iI o)) 612 (8 * n + 4) (iI d)) 612 (8 * n + 5) (iI w)) 612 (8 * n + 6) (iI h)) 612 (8 * n + 7) (iI x) = D at fV F8 L8 ⊢
  have i3 : D.1 600 24 + 1 = iI (T 0 2 + 1) := by rw [F8.1 _ _ (by omega), i2, cl1, iI_add, en]
  rw [i3]
  have F9 : Fq (fun a j => (a = 612 ∧ 8 * n ≤ j ∧ j < 8 * n + 8) ∨ (a = 600 ∧ j = 24)) M (wi D 600 24 (iI (T 0 2 + 1))) := (F8.mono (fun a k u => Or.inl u)).wi (Or.inr ⟨rfl, rfl⟩)
  have L9 : (wi D 600 24 (iI (T 0 2 + 1))).2 600 19 = M.2 600 19 := by rw [wi_2, L8]
  refine ⟨⟨g.of (fun a k u => F9.1 a k (by omega)) L9, ?_⟩, F9.mono (fun a k u => by show _ ∨ _; omega)⟩
  obtain ⟨⟨c0, c1, c2⟩, c3, c4, c5, c6⟩ := dd
  have z : ∀ (U : Nat → Int) k, k ≠ 2 → tW T U 0 k = T 0 k := fun U k hk => tW_o (Or.inr hk) (by omega)
  have ee : ∀ (U : Nat → Int) i k, 1 ≤ i → i < 10 → tW T U i k = T i k := fun U i k a b => tW_o (Or.inl (by omega)) (by omega)
  refine ⟨⟨?_, ?_, ?_⟩, fun x h0 hx => ⟨?_, ?_⟩, fun x h0 hx => ⟨?_, ?_⟩, fun j hj => ?_, fun w' f hw hf => ?_⟩
  · rw [z _ 0 (by omega), F9.1 _ _ (by omega)]; exact c0
  · rw [z _ 1 (by omega), F9.1 _ _ (by omega)]; exact c1
  · rw [tW_0, rd_same]
  · rw [z _ 0 (by omega)] at hx
    rw [sW_o (by omega), F9.1 _ _ (by omega)]; exact (c3 x h0 hx).1
  · rw [z _ 0 (by omega)] at hx
    rw [ee _ _ _ (by omega) (by omega), F9.1 _ _ (by omega)]; exact (c3 x h0 hx).2
  · rw [z _ 1 (by omega)] at hx
    rw [sW_o (by omega), F9.1 _ _ (by omega)]; exact (c4 x h0 hx).1
  · rw [z _ 1 (by omega)] at hx
    rw [ee _ _ _ (by omega) (by omega), F9.1 _ _ (by omega)]; exact (c4 x h0 hx).2
  · rw [ee _ _ _ (by omega) (by omega), F9.1 _ _ (by omega)]; exact c5 j hj
  · rw [tW_0] at hw
    by_cases q : w' = n
    · rw [q, hn, tW_w, ← hn, rd_ne (Or.inl (by omega))]; exact fV f hf
    · rw [tW_o (by omega) (by omega), F9.1 _ _ (by omega)]; exact c6 w' f (by omega) hf
theorem rf172 (g : RF M p) (a1 x2 x3 x4 x5 x6 x7 x8 : Int32) : p_X8_wantWork_172 M a1 x2 x3 x4 x5 x6 x7 x8 ∧ RF (w_X8_wantWork_172 M a1 x2 x3 x4 x5 x6 x7 x8) p ∧ Fq qV M (w_X8_wantWork_172 M a1 x2 x3 x4 x5 x6 x7 x8) := by
  obtain ⟨n1, n2, n3⟩ := g.wend
  unfold p_X8_wantWork_172 w_X8_wantWork_172 p_X8_wantWork_176 w_X8_wantWork_176
  rw [if_pos n2.1, if_pos n2.1]
  exact ⟨⟨n1, trivial⟩, n2, n3⟩
theorem r172 (g : RG M b tl e) (dd : RDr M T S) (hI : InvT T) (h2 : T 0 2 < 6) : p_X8_wantWork_172 M (iI k) (iI m) (iI t) (iI o) (iI d) (iI w) (iI h) (iI x) ∧ RRs (w_X8_wantWork_172 M (iI k) (iI m) (iI t) (iI o) (iI d) (iI w) (iI h) (iI x)) b tl (aEn b tl (.inr (e, tW T (vV k m t o d w h x), sW T S))) ∧ Fq qR M (w_X8_wantWork_172 M (iI k) (iI m) (iI t) (iI o) (iI d) (iI w) (iI h) (iI x)) := by
  obtain ⟨n1, n2, n3, n4⟩ := g.wend
  have d1 := dd.fv n4
  unfold p_X8_wantWork_172 w_X8_wantWork_172
  show _ ∧ RRs _ b tl (if isE b tl e then .inr (tkE b tl e, tW T (vV k m t o d w h x), sW T S) else .inl (tkS b tl e)) ∧ _
  by_cases c : isE b tl e
  · rw [if_pos c]
    obtain ⟨y1, y2, y3⟩ := r176 (k := k) (m := m) (t := t) (o := o) (d := d) (w := w) (h := h) (x := x) (n2 c) d1 hI h2
    exact ⟨⟨n1, y1⟩, y2, (n4.mono qVR).tr y3⟩
  · rw [if_neg c]
    have g1 := n3 c
    unfold p_X8_wantWork_176 w_X8_wantWork_176
    rw [if_pos g1.1, if_pos g1.1]
    exact ⟨⟨n1, trivial⟩, g1, n4.mono qVR⟩
theorem r142 (g : RG M b tl e) (dd : RDr M T S) (hI : InvT T) (h2 : T 0 2 < 6) : p_X8_wantWork_142 M (iI k) (iI m) (iI t) (iI o) (iI d) (iI w) (iI h) 0 ∧ RRs (w_X8_wantWork_142 M (iI k) (iI m) (iI t) (iI o) (iI d) (iI w) (iI h) 0) b tl (aEn b tl (A145 b tl T S k m t o d w h e)) ∧ Fq qR M (w_X8_wantWork_142 M (iI k) (iI m) (iI t) (iI o) (iI d) (iI w) (iI h) 0) := by
  have i2 := g.isw (w := 335207579) (u := 335207579) (by omega) (by decide)
  unfold p_X8_wantWork_142 w_X8_wantWork_142 A145
  rw [if_neg g.flag, if_neg g.flag]
  by_cases c8 : isW b tl e 335207579
  · have q : ¬ b2i (M.1 600 16 = 1 ∧ M.2 600 19 = 335207579) = 0 := fun u => i2.mp u c8
    rw [if_neg q, if_neg q, if_pos c8]
    obtain ⟨a1, g1, m1⟩ := g.adv0
    have d1 := dd.fv m1
    generalize w_X8_advance M = M1 at g1 m1 d1 ⊢
    obtain ⟨n1, n2, n3, n4, n5⟩ := g1.num (lo := 1) (hi := 99) (by omega) (by omega)
    unfold A165
    rw [cl1, cl99, n2]
    by_cases c : numOk b tl (tkE b tl e) 1 99
    · rw [aN_t c]
      obtain ⟨y1, y2, y3⟩ := r172 (k := k) (m := m) (t := t) (o := o) (d := d) (w := w) (h := h) (x := tkV b tl (tkE b tl e)) (n3 c) (d1.fv n5) hI h2
      exact ⟨⟨a1, n1, y1⟩, y2, ((m1.tr n5).mono qVR).tr y3⟩
    · rw [aN_f c]
      obtain ⟨y1, y2, y3⟩ := rf172 (n4 c) (iI k) (iI m) (iI t) (iI o) (iI d) (iI w) (iI h) (iI (tkV b tl (tkE b tl e)))
      exact ⟨⟨a1, n1, y1⟩, y2, ((m1.tr n5).tr y3).mono qVR⟩
  · have q := i2.mpr c8
    rw [if_pos q, if_pos q, if_neg c8, cl0]
    exact r172 g dd hI h2
theorem rf142 (g : RF M p) (a1 x2 x3 x4 x5 x6 x7 x8 : Int32) : p_X8_wantWork_142 M a1 x2 x3 x4 x5 x6 x7 x8 ∧ RF (w_X8_wantWork_142 M a1 x2 x3 x4 x5 x6 x7 x8) p ∧ Fq qV M (w_X8_wantWork_142 M a1 x2 x3 x4 x5 x6 x7 x8) := by
  unfold p_X8_wantWork_142 w_X8_wantWork_142
  rw [if_pos g.1, if_pos g.1]
  exact rf172 g a1 x2 x3 x4 x5 x6 x7 x8
theorem rf102 (g : RF M p) (a1 x2 x3 x4 x5 x6 : Int32) : p_X8_wantWork_102 M a1 x2 x3 x4 x5 x6 ∧ RF (w_X8_wantWork_102 M a1 x2 x3 x4 x5 x6) p ∧ Fq qV M (w_X8_wantWork_102 M a1 x2 x3 x4 x5 x6) := by
  unfold p_X8_wantWork_102 w_X8_wantWork_102
  rw [if_pos g.1, if_pos g.1]
  exact rf172 g a1 x2 x3 x4 x5 x6 (-1) 0
theorem r102 (g : RG M b tl e) (dd : RDr M T S) (hI : InvT T) (h2 : T 0 2 < 6) : p_X8_wantWork_102 M (iI k) (iI m) (iI t) (iI o) (iI d) (iI w) ∧ RRs (w_X8_wantWork_102 M (iI k) (iI m) (iI t) (iI o) (iI d) (iI w)) b tl (aEn b tl (A113 b tl T S k m t o d w e)) ∧ Fq qR M (w_X8_wantWork_102 M (iI k) (iI m) (iI t) (iI o) (iI d) (iI w)) := by
  have hc := hI.1
  have i2 := g.isw (w := 31519426) (u := 31519426) (by omega) (by decide)
  unfold p_X8_wantWork_102 w_X8_wantWork_102 A113
  rw [if_neg g.flag, if_neg g.flag]
  by_cases c8 : isW b tl e 31519426
  · have q : ¬ b2i (M.1 600 16 = 1 ∧ M.2 600 19 = 31519426) = 0 := fun u => i2.mp u c8
    rw [if_neg q, if_neg q, if_pos c8]
    obtain ⟨a1, g1, m1⟩ := g.adv0
    have d1 := dd.fv m1
    generalize w_X8_advance M = M1 at g1 m1 d1 ⊢
    obtain ⟨n1, n2, n3, n4, n5⟩ := g1.num (lo := 0) (hi := T 0 2 - 1) (by omega) (by omega)
    have e1 : M1.1 600 24 - 1 = iI (T 0 2 - 1) := by rw [d1.1.2.2, cl1, iI_sub]
    unfold A126
    rw [e1]
    rw [← cl0] at n1 n2 n3 n4 n5
    rw [n2]
    by_cases c : numOk b tl (tkE b tl e) 0 (T 0 2 - 1)
    · rw [aN_t c]
      obtain ⟨y1, y2, y3⟩ := r142 (k := k) (m := m) (t := t) (o := o) (d := d) (w := w) (h := tkV b tl (tkE b tl e)) (n3 c) (d1.fv n5) hI h2
      exact ⟨⟨a1, n1, y1⟩, y2, ((m1.tr n5).mono qVR).tr y3⟩
    · rw [aN_f c]
      obtain ⟨y1, y2, y3⟩ := rf142 (n4 c) (iI k) (iI m) (iI t) (iI o) (iI d) (iI w) (iI (tkV b tl (tkE b tl e))) 0
      exact ⟨⟨a1, n1, y1⟩, y2, ((m1.tr n5).tr y3).mono qVR⟩
  · have q := i2.mpr c8
    rw [if_pos q, if_pos q, if_neg c8, cm1, cl0]
    exact r172 g dd hI h2
theorem rf93 (g : RF M p) (a1 x2 x3 x4 x5 : Int32) : p_X8_wantWork_93 M a1 x2 x3 x4 x5 ∧ RF (w_X8_wantWork_93 M a1 x2 x3 x4 x5) p ∧ Fq qV M (w_X8_wantWork_93 M a1 x2 x3 x4 x5) := by
  unfold p_X8_wantWork_93 w_X8_wantWork_93
  obtain ⟨y1, y2, y3⟩ := g.num (0 : Int32) (99 : Int32)
  obtain ⟨z1, z2, z3⟩ := rf102 y2 a1 x2 x3 x4 x5 _
  exact ⟨⟨y1, z1⟩, z2, y3.tr z3⟩
theorem r93 (g : RG M b tl e) (dd : RDr M T S) (hI : InvT T) (h2 : T 0 2 < 6) : p_X8_wantWork_93 M (iI k) (iI m) (iI t) (iI o) (iI d) ∧ RRs (w_X8_wantWork_93 M (iI k) (iI m) (iI t) (iI o) (iI d)) b tl (aEn b tl (A80 b tl T S k m t o d e)) ∧ Fq qR M (w_X8_wantWork_93 M (iI k) (iI m) (iI t) (iI o) (iI d)) := by
  have hc := hI.1
  obtain ⟨n1, n2, n3, n4, n5⟩ := g.num (lo := 0) (hi := 99) (by omega) (by omega)
  unfold p_X8_wantWork_93 w_X8_wantWork_93 A80
  rw [cl0, cl99, n2]
  by_cases c : numOk b tl e 0 (99)
  · rw [aN_t c]
    obtain ⟨y1, y2, y3⟩ := r102 (k := k) (m := m) (t := t) (o := o) (d := d) (w := tkV b tl e) (n3 c) (dd.fv n5) hI h2
    exact ⟨⟨n1, y1⟩, y2, (n5.mono qVR).tr y3⟩
  · rw [aN_f c]
    obtain ⟨y1, y2, y3⟩ := rf102 (n4 c) (iI k) (iI m) (iI t) (iI o) (iI d) (iI (tkV b tl e))
    exact ⟨⟨n1, y1⟩, y2, (n5.tr y3).mono qVR⟩
theorem rf86 (g : RF M p) (a1 x2 x3 x4 x5 : Int32) : p_X8_wantWork_86 M a1 x2 x3 x4 x5 ∧ RF (w_X8_wantWork_86 M a1 x2 x3 x4 x5) p ∧ Fq qV M (w_X8_wantWork_86 M a1 x2 x3 x4 x5) := by
  unfold p_X8_wantWork_86 w_X8_wantWork_86
  obtain ⟨y1, y2, y3⟩ := g.word 4797
  obtain ⟨z1, z2, z3⟩ := rf93 y2 a1 x2 x3 x4 x5
  exact ⟨⟨y1, z1⟩, z2, y3.tr z3⟩
theorem r86 (g : RG M b tl e) (dd : RDr M T S) (hI : InvT T) (h2 : T 0 2 < 6) : p_X8_wantWork_86 M (iI k) (iI m) (iI t) (iI o) (iI d) ∧ RRs (w_X8_wantWork_86 M (iI k) (iI m) (iI t) (iI o) (iI d)) b tl (aEn b tl (A74 b tl T S k m t o d e)) ∧ Fq qR M (w_X8_wantWork_86 M (iI k) (iI m) (iI t) (iI o) (iI d)) := by
  have hc := hI.1
  obtain ⟨n1, n2, n3, n4⟩ := g.word (w := 4797) (u := 4797) (by omega) (by decide)
  unfold p_X8_wantWork_86 w_X8_wantWork_86 A74
  by_cases c : isW b tl e 4797
  · rw [aW_t c]
    obtain ⟨y1, y2, y3⟩ := r93 (k := k) (m := m) (t := t) (o := o) (d := d) (n2 c) (dd.fv n4) hI h2
    exact ⟨⟨n1, y1⟩, y2, (n4.mono qVR).tr y3⟩
  · rw [aW_f c]
    obtain ⟨y1, y2, y3⟩ := rf93 (n3 c) (iI k) (iI m) (iI t) (iI o) (iI d)
    exact ⟨⟨n1, y1⟩, y2, (n4.tr y3).mono qVR⟩
theorem rf76 (g : RF M p) (a1 x2 x3 x4 : Int32) : p_X8_wantWork_76 M a1 x2 x3 x4 ∧ RF (w_X8_wantWork_76 M a1 x2 x3 x4) p ∧ Fq qV M (w_X8_wantWork_76 M a1 x2 x3 x4) := by
  unfold p_X8_wantWork_76 w_X8_wantWork_76
  obtain ⟨y1, y2, y3⟩ := g.num (0 : Int32) (999 : Int32)
  obtain ⟨z1, z2, z3⟩ := rf86 y2 a1 x2 x3 x4 _
  exact ⟨⟨y1, z1⟩, z2, y3.tr z3⟩
theorem r76 (g : RG M b tl e) (dd : RDr M T S) (hI : InvT T) (h2 : T 0 2 < 6) : p_X8_wantWork_76 M (iI k) (iI m) (iI t) (iI o) ∧ RRs (w_X8_wantWork_76 M (iI k) (iI m) (iI t) (iI o)) b tl (aEn b tl (A64 b tl T S k m t o e)) ∧ Fq qR M (w_X8_wantWork_76 M (iI k) (iI m) (iI t) (iI o)) := by
  have hc := hI.1
  obtain ⟨n1, n2, n3, n4, n5⟩ := g.num (lo := 0) (hi := 999) (by omega) (by omega)
  unfold p_X8_wantWork_76 w_X8_wantWork_76 A64
  rw [cl0, cl999, n2]
  by_cases c : numOk b tl e 0 (999)
  · rw [aN_t c]
    obtain ⟨y1, y2, y3⟩ := r86 (k := k) (m := m) (t := t) (o := o) (d := tkV b tl e) (n3 c) (dd.fv n5) hI h2
    exact ⟨⟨n1, y1⟩, y2, (n5.mono qVR).tr y3⟩
  · rw [aN_f c]
    obtain ⟨y1, y2, y3⟩ := rf86 (n4 c) (iI k) (iI m) (iI t) (iI o) (iI (tkV b tl e))
    exact ⟨⟨n1, y1⟩, y2, (n5.tr y3).mono qVR⟩
theorem rf69 (g : RF M p) (a1 x2 x3 x4 : Int32) : p_X8_wantWork_69 M a1 x2 x3 x4 ∧ RF (w_X8_wantWork_69 M a1 x2 x3 x4) p ∧ Fq qV M (w_X8_wantWork_69 M a1 x2 x3 x4) := by
  unfold p_X8_wantWork_69 w_X8_wantWork_69
  obtain ⟨y1, y2, y3⟩ := g.word 79
  obtain ⟨z1, z2, z3⟩ := rf76 y2 a1 x2 x3 x4
  exact ⟨⟨y1, z1⟩, z2, y3.tr z3⟩
theorem r69 (g : RG M b tl e) (dd : RDr M T S) (hI : InvT T) (h2 : T 0 2 < 6) : p_X8_wantWork_69 M (iI k) (iI m) (iI t) (iI o) ∧ RRs (w_X8_wantWork_69 M (iI k) (iI m) (iI t) (iI o)) b tl (aEn b tl (A58 b tl T S k m t o e)) ∧ Fq qR M (w_X8_wantWork_69 M (iI k) (iI m) (iI t) (iI o)) := by
  have hc := hI.1
  obtain ⟨n1, n2, n3, n4⟩ := g.word (w := 79) (u := 79) (by omega) (by decide)
  unfold p_X8_wantWork_69 w_X8_wantWork_69 A58
  by_cases c : isW b tl e 79
  · rw [aW_t c]
    obtain ⟨y1, y2, y3⟩ := r76 (k := k) (m := m) (t := t) (o := o) (n2 c) (dd.fv n4) hI h2
    exact ⟨⟨n1, y1⟩, y2, (n4.mono qVR).tr y3⟩
  · rw [aW_f c]
    obtain ⟨y1, y2, y3⟩ := rf76 (n3 c) (iI k) (iI m) (iI t) (iI o)
    exact ⟨⟨n1, y1⟩, y2, (n4.tr y3).mono qVR⟩
theorem rf60 (g : RF M p) (a1 x2 x3 : Int32) : p_X8_wantWork_60 M a1 x2 x3 ∧ RF (w_X8_wantWork_60 M a1 x2 x3) p ∧ Fq qV M (w_X8_wantWork_60 M a1 x2 x3) := by
  unfold p_X8_wantWork_60 w_X8_wantWork_60
  obtain ⟨y1, y2, y3⟩ := g.num (0 : Int32) (9 : Int32)
  obtain ⟨z1, z2, z3⟩ := rf69 y2 a1 x2 x3 _
  exact ⟨⟨y1, z1⟩, z2, y3.tr z3⟩
theorem r60 (g : RG M b tl e) (dd : RDr M T S) (hI : InvT T) (h2 : T 0 2 < 6) : p_X8_wantWork_60 M (iI k) (iI m) (iI t) ∧ RRs (w_X8_wantWork_60 M (iI k) (iI m) (iI t)) b tl (aEn b tl (A49 b tl T S k m t e)) ∧ Fq qR M (w_X8_wantWork_60 M (iI k) (iI m) (iI t)) := by
  have hc := hI.1
  obtain ⟨n1, n2, n3, n4, n5⟩ := g.num (lo := 0) (hi := 9) (by omega) (by omega)
  unfold p_X8_wantWork_60 w_X8_wantWork_60 A49
  rw [cl0, cl9, n2]
  by_cases c : numOk b tl e 0 (9)
  · rw [aN_t c]
    obtain ⟨y1, y2, y3⟩ := r69 (k := k) (m := m) (t := t) (o := tkV b tl e) (n3 c) (dd.fv n5) hI h2
    exact ⟨⟨n1, y1⟩, y2, (n5.mono qVR).tr y3⟩
  · rw [aN_f c]
    obtain ⟨y1, y2, y3⟩ := rf69 (n4 c) (iI k) (iI m) (iI t) (iI (tkV b tl e))
    exact ⟨⟨n1, y1⟩, y2, (n5.tr y3).mono qVR⟩
theorem rf53 (g : RF M p) (a1 x2 x3 : Int32) : p_X8_wantWork_53 M a1 x2 x3 ∧ RF (w_X8_wantWork_53 M a1 x2 x3) p ∧ Fq qV M (w_X8_wantWork_53 M a1 x2 x3) := by
  unfold p_X8_wantWork_53 w_X8_wantWork_53
  obtain ⟨y1, y2, y3⟩ := g.word 555
  obtain ⟨z1, z2, z3⟩ := rf60 y2 a1 x2 x3
  exact ⟨⟨y1, z1⟩, z2, y3.tr z3⟩
theorem r53 (g : RG M b tl e) (dd : RDr M T S) (hI : InvT T) (h2 : T 0 2 < 6) : p_X8_wantWork_53 M (iI k) (iI m) (iI t) ∧ RRs (w_X8_wantWork_53 M (iI k) (iI m) (iI t)) b tl (aEn b tl (A43 b tl T S k m t e)) ∧ Fq qR M (w_X8_wantWork_53 M (iI k) (iI m) (iI t)) := by
  have hc := hI.1
  obtain ⟨n1, n2, n3, n4⟩ := g.word (w := 555) (u := 555) (by omega) (by decide)
  unfold p_X8_wantWork_53 w_X8_wantWork_53 A43
  by_cases c : isW b tl e 555
  · rw [aW_t c]
    obtain ⟨y1, y2, y3⟩ := r60 (k := k) (m := m) (t := t) (n2 c) (dd.fv n4) hI h2
    exact ⟨⟨n1, y1⟩, y2, (n4.mono qVR).tr y3⟩
  · rw [aW_f c]
    obtain ⟨y1, y2, y3⟩ := rf60 (n3 c) (iI k) (iI m) (iI t)
    exact ⟨⟨n1, y1⟩, y2, (n4.tr y3).mono qVR⟩
theorem rf41 (g : RF M p) (a1 x2 : Int32) : p_X8_wantWork_41 M a1 x2 ∧ RF (w_X8_wantWork_41 M a1 x2) p ∧ Fq qV M (w_X8_wantWork_41 M a1 x2) := by
  unfold p_X8_wantWork_41 w_X8_wantWork_41
  obtain ⟨y1, y2, y3⟩ := g.num (0 : Int32) (M.1 600 23 - 1)
  obtain ⟨z1, z2, z3⟩ := rf53 y2 a1 x2 _
  exact ⟨⟨y1, z1⟩, z2, y3.tr z3⟩
theorem r41 (g : RG M b tl e) (dd : RDr M T S) (hI : InvT T) (h2 : T 0 2 < 6) : p_X8_wantWork_41 M (iI k) (iI m) ∧ RRs (w_X8_wantWork_41 M (iI k) (iI m)) b tl (aEn b tl (A30 b tl T S k m e)) ∧ Fq qR M (w_X8_wantWork_41 M (iI k) (iI m)) := by
  have hc := hI.1
  obtain ⟨n1, n2, n3, n4, n5⟩ := g.num (lo := 0) (hi := T 0 1 - 1) (by omega) (by omega)
  unfold p_X8_wantWork_41 w_X8_wantWork_41 A30
  rw [dd.1.2.1, cl0, cl1, iI_sub, n2]
  by_cases c : numOk b tl e 0 (T 0 1 - 1)
  · rw [aN_t c]
    obtain ⟨y1, y2, y3⟩ := r53 (k := k) (m := m) (t := tkV b tl e) (n3 c) (dd.fv n5) hI h2
    exact ⟨⟨n1, y1⟩, y2, (n5.mono qVR).tr y3⟩
  · rw [aN_f c]
    obtain ⟨y1, y2, y3⟩ := rf53 (n4 c) (iI k) (iI m) (iI (tkV b tl e))
    exact ⟨⟨n1, y1⟩, y2, (n5.tr y3).mono qVR⟩
theorem rf29 (g : RF M p) (a1 : Int32) : p_X8_wantWork_29 M a1 ∧ RF (w_X8_wantWork_29 M a1) p ∧ Fq qV M (w_X8_wantWork_29 M a1) := by
  unfold p_X8_wantWork_29 w_X8_wantWork_29
  obtain ⟨y1, y2, y3⟩ := g.num (0 : Int32) (M.1 600 22 - 1)
  obtain ⟨z1, z2, z3⟩ := rf41 y2 a1 _
  exact ⟨⟨y1, z1⟩, z2, y3.tr z3⟩
theorem r29 (g : RG M b tl e) (dd : RDr M T S) (hI : InvT T) (h2 : T 0 2 < 6) : p_X8_wantWork_29 M (iI k) ∧ RRs (w_X8_wantWork_29 M (iI k)) b tl (aEn b tl (A18 b tl T S k e)) ∧ Fq qR M (w_X8_wantWork_29 M (iI k)) := by
  have hc := hI.1
  obtain ⟨n1, n2, n3, n4, n5⟩ := g.num (lo := 0) (hi := T 0 0 - 1) (by omega) (by omega)
  unfold p_X8_wantWork_29 w_X8_wantWork_29 A18
  rw [dd.1.1, cl0, cl1, iI_sub, n2]
  by_cases c : numOk b tl e 0 (T 0 0 - 1)
  · rw [aN_t c]
    obtain ⟨y1, y2, y3⟩ := r41 (k := k) (m := tkV b tl e) (n3 c) (dd.fv n5) hI h2
    exact ⟨⟨n1, y1⟩, y2, (n5.mono qVR).tr y3⟩
  · rw [aN_f c]
    obtain ⟨y1, y2, y3⟩ := rf41 (n4 c) (iI k) (iI (tkV b tl e))
    exact ⟨⟨n1, y1⟩, y2, (n5.tr y3).mono qVR⟩
theorem r_work (g : RG M b tl e) (dd : RDr M T S) (hI : InvT T) : p_X8_wantWork M (iI k) ∧ RRs (w_X8_wantWork M (iI k)) b tl (aEn b tl (AWk b tl T S k e)) ∧ Fq qR M (w_X8_wantWork M (iI k)) := by
  have hc := hI.1
  have q : ((6 : Int32) ≤ M.1 600 24) ↔ ¬ T 0 2 < 6 := by rw [dd.1.2.2, cl6, iI_le (by omega) (by omega) (by omega) (by omega)]; omega
  unfold p_X8_wantWork w_X8_wantWork AWk p_X8_wantWork_18 w_X8_wantWork_18
  by_cases h2 : T 0 2 < 6
  · have q' : ¬ (6 : Int32) ≤ M.1 600 24 := fun u => q.mp u h2
    have w1 : ¬ (wi M 600 21 1).1 600 21 = 0 := by rw [rd_same]; decide
    rw [if_neg q', if_neg q', if_pos h2, if_neg w1, if_neg w1]
    obtain ⟨a1, g1, m1⟩ := g.adv1
    obtain ⟨y1, y2, y3⟩ := r29 (k := k) g1 (dd.fv m1) hI h2
    exact ⟨⟨a1, y1⟩, y2, (m1.mono qVR).tr y3⟩
  · have w0 : (wi M 600 21 0).1 600 21 = 0 := rd_same ..
    rw [if_pos (q.mpr h2), if_pos (q.mpr h2), if_neg h2, if_pos w0, if_pos w0]
    obtain ⟨f1, f2⟩ := g.fl
    obtain ⟨y1, y2, y3⟩ := rf29 f1 (iI k)
    exact ⟨y1, y2, (f2.tr y3).mono qVR⟩
end PA7
