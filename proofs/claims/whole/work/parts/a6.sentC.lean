/-! a sentence read: the class -/
section PA6
variable {M M' : Mm} {b : Nat → Int} {tl e p : Nat} {T S T0 : Tw} {x y : Int} {r : Rr}
theorem cdr_addM (dd : CDr M T S) (hI : InvT T) (h2 : T 0 0 < 3) : p_X5_addMover_300 M (iI x) (iI y) ∧ CDr (w_X5_addMover_300 M (iI x) (iI y)) (tU (tU T 1 (T 0 0).toNat y) 0 0 (T 0 0 + 1)) (tU S 0 (T 0 0).toNat x) ∧ Fq (fun a k => a = 1021 ∨ a = 301 ∨ a = 300) M (w_X5_addMover_300 M (iI x) (iI y)) := by
  have hc := hI.1
  have nn : Int32.toNatClampNeg (iI (T 0 0)) = (T 0 0).toNat := iI_nat (by omega) (by omega)
  have v6 : vp_in (iI (T 0 0)) 3 := vin_iI (by omega) (by omega) (by omega)
  have e1 : iI (T 0 0) + 1 = iI (T 0 0 + 1) := by rw [cl1, iI_add]
  unfold p_X5_addMover_300 w_X5_addMover_300
  rw [dd.1.1.1, nn, e1]
  refine ⟨⟨v6, v6, trivial⟩, c_addM dd.1 dd.2 hI h2 (by omega) ?_ ?_ (rd_same ..) (fun a k _ u => ?_), Fq.wi (Fq.wi (Fq.wi Fq.rf (by omega)) (by omega)) (by omega)⟩
  · show (wi (wi (wi M 1021 (T 0 0).toNat (iI x)) 301 (T 0 0).toNat (iI y)) 300 0 (iI (T 0 0 + 1))).1 1021 (T 0 0).toNat = iI x
    rw [rd_ne (Or.inl (by omega)), rd_ne (Or.inl (by omega)), rd_same]
  · show (wi (wi (wi M 1021 (T 0 0).toNat (iI x)) 301 (T 0 0).toNat (iI y)) 300 0 (iI (T 0 0 + 1))).1 301 (T 0 0).toNat = iI y
    rw [rd_ne (Or.inl (by omega)), rd_same]
  · rw [rd_ne (by omega), rd_ne (by omega), rd_ne (by omega)]
theorem cdr_addT (dd : CDr M T S) (hI : InvT T) (h2 : T 0 1 < 6) : p_X5_addThing_300 M (iI x) (iI y) ∧ CDr (w_X5_addThing_300 M (iI x) (iI y)) (tU (tU T 2 (T 0 1).toNat y) 0 1 (T 0 1 + 1)) (tU S 1 (T 0 1).toNat x) ∧ Fq (fun a k => a = 1022 ∨ a = 302 ∨ a = 300) M (w_X5_addThing_300 M (iI x) (iI y)) := by
  have hc := hI.1
  have nn : Int32.toNatClampNeg (iI (T 0 1)) = (T 0 1).toNat := iI_nat (by omega) (by omega)
  have v6 : vp_in (iI (T 0 1)) 6 := vin_iI (by omega) (by omega) (by omega)
  have e1 : iI (T 0 1) + 1 = iI (T 0 1 + 1) := by rw [cl1, iI_add]
  unfold p_X5_addThing_300 w_X5_addThing_300
  rw [dd.1.1.2.1, nn, e1]
  refine ⟨⟨v6, v6, trivial⟩, c_addT dd.1 dd.2 hI h2 (by omega) ?_ ?_ (rd_same ..) (fun a k _ u => ?_), Fq.wi (Fq.wi (Fq.wi Fq.rf (by omega)) (by omega)) (by omega)⟩
  · show (wi (wi (wi M 1022 (T 0 1).toNat (iI x)) 302 (T 0 1).toNat (iI y)) 300 1 (iI (T 0 1 + 1))).1 1022 (T 0 1).toNat = iI x
    rw [rd_ne (Or.inl (by omega)), rd_ne (Or.inl (by omega)), rd_same]
  · show (wi (wi (wi M 1022 (T 0 1).toNat (iI x)) 302 (T 0 1).toNat (iI y)) 300 1 (iI (T 0 1 + 1))).1 302 (T 0 1).toNat = iI y
    rw [rd_ne (Or.inl (by omega)), rd_same]
  · rw [rd_ne (by omega), rd_ne (by omega), rd_ne (by omega)]
theorem c_readM (g : CG M b tl e) (dd : CDr M T S) (hI : InvT T) : p_X4_readMover M ∧ CRs (w_X4_readMover M) b tl (AMv b tl T S e) ∧ Fq qD M (w_X4_readMover M) := by
  have hc := hI.1
  have q : (M.1 300 0 < (3 : Int32)) ↔ T 0 0 < 3 := by rw [dd.1.1.1, cl3, iI_lt (by omega) (by omega) (by omega) (by omega)]
  unfold p_X4_readMover w_X4_readMover AMv
  by_cases h2 : T 0 0 < 3
  · rw [if_pos (q.mpr h2), if_pos (q.mpr h2), if_pos h2]
    obtain ⟨a1, g1, m1⟩ := g.adv
    have d1 := dd.fc hI m1
    generalize w_X4_advance M = M1 at g1 m1 d1 ⊢
    obtain ⟨n1, n2, n3, n4⟩ := g1.num (lo := 0) (hi := 9) (by omega) (by omega)
    rw [← cl0, ← cl9] at n1 n2 n3 n4
    have d2 := d1.fc hI n4
    have m2 := m1.tr n4
    generalize w_X4_readNumber M1 0 9 = M2 at n2 n3 d2 m2 ⊢
    by_cases c1 : numOk b tl (tkE b tl e) 0 9
    · obtain ⟨r1, g2⟩ := n2 c1
      rw [aN_t c1, r1]
      obtain ⟨o1, o2, o3, o4⟩ := g2.num (lo := 1) (hi := 5) (by omega) (by omega)
      rw [← cl1, ← cl5] at o1 o2 o3 o4
      have d3 := d2.fc hI o4
      have m3 := m2.tr o4
      generalize w_X4_readNumber M2 1 5 = M3 at o2 o3 d3 m3 ⊢
      by_cases c2 : numOk b tl (tkE b tl (tkE b tl e)) 1 5
      · obtain ⟨r2, g3⟩ := o2 c2
        obtain ⟨y1, y2, y3⟩ := cdr_addM (x := tkV b tl (tkE b tl e)) (y := tkV b tl (tkE b tl (tkE b tl e))) d3 hI h2
        rw [aN_t c2, r2, if_neg g3.neg, if_neg g3.neg]
        exact ⟨⟨a1, n1, o1, y1, trivial⟩, ⟨g3.fq y3 (fun k => by omega) (fun k => by omega), y2⟩, (m3.mono qCD).tr (y3.mono (fun a k u => by show _ ∨ _ ∨ _; omega))⟩
      · obtain ⟨r2, g3⟩ := o3 c2
        rw [aN_f c2, if_pos g3.pos, if_pos g3.pos]
        exact ⟨⟨a1, n1, o1, trivial⟩, g3, m3.mono qCD⟩
    · obtain ⟨r1, g2⟩ := n3 c1
      obtain ⟨o1, o2⟩ := g2.num 1 5
      rw [aN_f c1, o2, if_pos g2.pos, if_pos g2.pos]
      exact ⟨⟨a1, n1, o1, trivial⟩, g2, m2.mono qCD⟩
  · have q' : ¬ M.1 300 0 < (3 : Int32) := fun u => h2 (q.mp u)
    rw [if_neg q', if_neg q', if_neg h2, g.fail]
    exact ⟨trivial, g.fl.1, g.fl.2.mono qCD⟩
theorem c_readT (g : CG M b tl e) (dd : CDr M T S) (hI : InvT T) : p_X4_readThing M ∧ CRs (w_X4_readThing M) b tl (ATh b tl T S e) ∧ Fq qD M (w_X4_readThing M) := by
  have hc := hI.1
  have q : (M.1 300 1 < (6 : Int32)) ↔ T 0 1 < 6 := by rw [dd.1.1.2.1, cl6, iI_lt (by omega) (by omega) (by omega) (by omega)]
  unfold p_X4_readThing w_X4_readThing ATh
  by_cases h2 : T 0 1 < 6
  · rw [if_pos (q.mpr h2), if_pos (q.mpr h2), if_pos h2]
    obtain ⟨a1, g1, m1⟩ := g.adv
    have d1 := dd.fc hI m1
    generalize w_X4_advance M = M1 at g1 m1 d1 ⊢
    obtain ⟨n1, n2, n3, n4⟩ := g1.num (lo := 0) (hi := 9) (by omega) (by omega)
    rw [← cl0, ← cl9] at n1 n2 n3 n4
    have d2 := d1.fc hI n4
    have m2 := m1.tr n4
    generalize w_X4_readNumber M1 0 9 = M2 at n2 n3 d2 m2 ⊢
    by_cases c1 : numOk b tl (tkE b tl e) 0 9
    · obtain ⟨r1, g2⟩ := n2 c1
      rw [aN_t c1, r1]
      obtain ⟨o1, o2, o3, o4⟩ := g2.num (lo := 1) (hi := 9) (by omega) (by omega)
      rw [← cl1, ← cl9] at o1 o2 o3 o4
      have d3 := d2.fc hI o4
      have m3 := m2.tr o4
      generalize w_X4_readNumber M2 1 9 = M3 at o2 o3 d3 m3 ⊢
      by_cases c2 : numOk b tl (tkE b tl (tkE b tl e)) 1 9
      · obtain ⟨r2, g3⟩ := o2 c2
        obtain ⟨y1, y2, y3⟩ := cdr_addT (x := tkV b tl (tkE b tl e)) (y := tkV b tl (tkE b tl (tkE b tl e))) d3 hI h2
        rw [aN_t c2, r2, if_neg g3.neg, if_neg g3.neg]
        exact ⟨⟨a1, n1, o1, y1, trivial⟩, ⟨g3.fq y3 (fun k => by omega) (fun k => by omega), y2⟩, (m3.mono qCD).tr (y3.mono (fun a k u => by show _ ∨ _ ∨ _; omega))⟩
      · obtain ⟨r2, g3⟩ := o3 c2
        rw [aN_f c2, if_pos g3.pos, if_pos g3.pos]
        exact ⟨⟨a1, n1, o1, trivial⟩, g3, m3.mono qCD⟩
    · obtain ⟨r1, g2⟩ := n3 c1
      obtain ⟨o1, o2⟩ := g2.num 1 9
      rw [aN_f c1, o2, if_pos g2.pos, if_pos g2.pos]
      exact ⟨⟨a1, n1, o1, trivial⟩, g2, m2.mono qCD⟩
  · have q' : ¬ M.1 300 1 < (6 : Int32) := fun u => h2 (q.mp u)
    rw [if_neg q', if_neg q', if_neg h2, g.fail]
    exact ⟨trivial, g.fl.1, g.fl.2.mono qCD⟩
theorem lw_om : ∀ k, k < 4 → om_least k = iI (lwl k) ∧ om_most k = iI (lwm k) := by decide
theorem lwb : ∀ k, k < 4 → (0 ≤ lwl k ∧ lwl k ≤ 1000) ∧ (-1 ≤ lwm k ∧ lwm k ≤ 1000) := by decide
theorem CDr.law (dd : CDr M T S) {k : Nat} (hk : k < 4) {v : Int} : CDr (wi M 304 k (iI v)) (tU T 3 k v) S := by
  obtain ⟨⟨⟨c0, c1, c2⟩, c3, c4, c5, c6⟩, ⟨s0, s1, s2, s3, s4⟩⟩ := dd
  have e : ∀ i j, i ≠ 3 → tU T 3 k v i j = T i j := fun i j q => tU_n (Or.inl q)
  refine ⟨⟨⟨?_, ?_, ?_⟩, fun x h0 hx => ?_, fun x h0 hx => ?_, fun j hj => ?_, fun w g hw hg => ?_⟩, ⟨fun x h0 hx => ?_, fun x h0 hx => ?_, fun x h0 hx => ?_, fun x h0 hx => ?_, ?_⟩⟩
  · rw [e 0 _ (by omega), rd_ne (Or.inl (by omega))]; exact c0
  · rw [e 0 _ (by omega), rd_ne (Or.inl (by omega))]; exact c1
  · rw [e 0 _ (by omega), rd_ne (Or.inl (by omega))]; exact c2
  · rw [e 0 _ (by omega)] at hx
    rw [e _ _ (by omega), rd_ne (Or.inl (by omega))]; exact c3 x h0 hx
  · rw [e 0 _ (by omega)] at hx
    rw [e _ _ (by omega), rd_ne (Or.inl (by omega))]; exact c4 x h0 hx
  · show (wi M 304 k (iI v)).1 304 j = _
    by_cases q : j = k
    · rw [q, rd_same, tU_s]
    · rw [rd_ne (Or.inr q), tU_n (Or.inr q)]; exact c5 j hj
  · rw [e 0 _ (by omega)] at hw
    rw [e _ _ (by omega), rd_ne (Or.inl (by omega))]; exact c6 w g hw hg
  · rw [e 0 _ (by omega)] at hx
    rw [rd_ne (Or.inl (by omega))]; exact s0 x h0 hx
  · rw [e 0 _ (by omega)] at hx
    rw [rd_ne (Or.inl (by omega))]; exact s1 x h0 hx
  · rw [e 0 _ (by omega)] at hx
    rw [rd_ne (Or.inl (by omega))]; exact s2 x h0 hx
  · rw [e 0 _ (by omega)] at hx
    rw [rd_ne (Or.inl (by omega))]; exact s3 x h0 hx
  · rw [rd_ne (Or.inl (by omega))]; exact s4
theorem c_law {k : Nat} (hk : k < 4) {a2 : Int32} (ha : a2 = iI (k : Int)) (g : CG M b tl e) (dd : CDr M T S) (hI : InvT T) : p_X4_readLaw M a2 ∧ (numOk b tl e (lwl k) (lwm k) → CG (w_X4_readLaw M a2) b tl (tkE b tl e) ∧ CDr (w_X4_readLaw M a2) (tU T 3 k (tkV b tl e)) S) ∧ (¬ numOk b tl e (lwl k) (lwm k) → CF (w_X4_readLaw M a2) b tl (tkS b tl e)) ∧ Fq qD M (w_X4_readLaw M a2) := by
  obtain ⟨l1, l2⟩ := lw_om k hk
  obtain ⟨b1, b2⟩ := lwb k hk
  have nn : Int32.toNatClampNeg (iI (k : Int)) = k := natk rfl (by omega)
  have v4 : vp_in (iI (k : Int)) 4 := vin_iI (by omega) (by omega) (by omega)
  obtain ⟨n1, n2, n3, n4⟩ := g.num (lo := lwl k) (hi := lwm k) b1 b2
  have d2 := dd.fc hI n4
  unfold p_X4_readLaw w_X4_readLaw
  rw [ha, nn, l1, l2]
  generalize w_X4_readNumber M (iI (lwl k)) (iI (lwm k)) = M2 at n2 n3 n4 d2 ⊢
  by_cases c : numOk b tl e (lwl k) (lwm k)
  · obtain ⟨r1, g1⟩ := n2 c
    rw [r1, if_neg g1.neg, if_neg g1.neg]
    have F : Fq (fun a j => a = 304) M2 (wi M2 304 k (iI (tkV b tl e))) := Fq.wi Fq.rf rfl
    exact ⟨⟨v4, v4, n1, v4, trivial⟩, fun _ => ⟨g1.fq F (fun k => by omega) (fun k => by omega), d2.law hk⟩, fun u => absurd c u, (n4.mono qCD).tr (F.mono (fun a k u => by show _ ∨ _ ∨ _; omega))⟩
  · obtain ⟨r1, g1⟩ := n3 c
    rw [if_pos g1.pos, if_pos g1.pos]
    exact ⟨⟨v4, v4, n1, trivial⟩, fun u => absurd u c, fun _ => g1, n4.mono qCD⟩
theorem f_law {k : Nat} (hk : k < 4) {a2 : Int32} (ha : a2 = iI (k : Int)) (g : CF M b tl p) : p_X4_readLaw M a2 ∧ w_X4_readLaw M a2 = M := by
  have v4 : vp_in (iI (k : Int)) 4 := vin_iI (by omega) (by omega) (by omega)
  unfold p_X4_readLaw w_X4_readLaw
  obtain ⟨o1, o2⟩ := g.num (om_least (Int32.toNatClampNeg a2)) (om_most (Int32.toNatClampNeg a2))
  rw [o2, if_pos g.pos, if_pos g.pos]
  rw [ha] at o1 ⊢
  exact ⟨⟨v4, v4, o1, trivial⟩, rfl⟩
theorem c_end {e0 : Nat} (h : CRs M b tl r) (hg : Gd T0 tl e0 r) (x : Int32) : p_X4_readSentence_128 M x ∧ CRs (w_X4_readSentence_128 M x) b tl (aEn b tl r) ∧ Fq qD M (w_X4_readSentence_128 M x) := by
  unfold p_X4_readSentence_128 w_X4_readSentence_128
  cases r with
  | inl p =>
    have g : CF M b tl p := h
    obtain ⟨y1, y2⟩ := g.wd5
    rw [y2]
    exact ⟨⟨y1, trivial⟩, g, Fq.rf⟩
  | inr q =>
    obtain ⟨e, T, S⟩ := q
    obtain ⟨g, dd⟩ : CG M b tl e ∧ CDr M T S := h
    obtain ⟨-, -, hv, -⟩ := hg
    obtain ⟨n1, n2, n3, n4⟩ := g.wd5
    show _ ∧ CRs _ b tl (if isE b tl e then .inr (tkE b tl e, T, S) else .inl (tkS b tl e)) ∧ _
    by_cases c : isE b tl e
    · rw [if_pos c]
      exact ⟨⟨n1, trivial⟩, ⟨n2 c, dd.fc hv.1 n4⟩, n4.mono qCD⟩
    · rw [if_neg c]
      exact ⟨⟨n1, trivial⟩, n3 c, n4.mono qCD⟩
theorem cx_kind (g : CG M b tl e) : p_X4_kindTold M ∧ r_X4_kindTold M = iI (aKd b tl e) := by
  obtain ⟨v6, v7, v8, v9, v10, v11⟩ := wdv_k
  obtain ⟨p6, w6⟩ := g.isw (i := 6) (by omega) (by omega)
  obtain ⟨p7, w7⟩ := g.isw (i := 7) (by omega) (by omega)
  obtain ⟨p8, w8⟩ := g.isw (i := 8) (by omega) (by omega)
  obtain ⟨p9, w9⟩ := g.isw (i := 9) (by omega) (by omega)
  obtain ⟨p10, w10⟩ := g.isw (i := 10) (by omega) (by omega)
  obtain ⟨p11, w11⟩ := g.isw (i := 11) (by omega) (by omega)
  rw [v6] at w6
  rw [v7] at w7
  rw [v8] at w8
  rw [v9] at w9
  rw [v10] at w10
  rw [v11] at w11
  unfold p_X4_kindTold r_X4_kindTold aKd
  by_cases c6 : isW b tl e 464141
  · have q : ¬ r_X4_isWord M 6 = 0 := fun u => w6.mp u c6
    rw [if_neg q, if_neg q, if_pos c6]
    exact ⟨⟨p6, trivial⟩, by decide⟩
  · have q := w6.mpr c6
    rw [if_pos q, if_pos q, if_neg c6]
    by_cases c7 : isW b tl e 4351291
    · have q : ¬ r_X4_isWord M 7 = 0 := fun u => w7.mp u c7
      rw [if_neg q, if_neg q, if_pos c7]
      exact ⟨⟨p6, p7, trivial⟩, by decide⟩
    · have q := w7.mpr c7
      rw [if_pos q, if_pos q, if_neg c7]
      by_cases c8 : isW b tl e 60284
      · have q : ¬ r_X4_isWord M 8 = 0 := fun u => w8.mp u c8
        rw [if_neg q, if_neg q, if_pos c8]
        exact ⟨⟨p6, p7, p8, trivial⟩, by decide⟩
      · have q := w8.mpr c8
        rw [if_pos q, if_pos q, if_neg c8]
        by_cases c9 : isW b tl e 383153
        · have q : ¬ r_X4_isWord M 9 = 0 := fun u => w9.mp u c9
          rw [if_neg q, if_neg q, if_pos c9]
          exact ⟨⟨p6, p7, p8, p9, trivial⟩, by decide⟩
        · have q := w9.mpr c9
          rw [if_pos q, if_pos q, if_neg c9]
          by_cases c10 : isW b tl e 9454493
          · have q : ¬ r_X4_isWord M 10 = 0 := fun u => w10.mp u c10
            rw [if_neg q, if_neg q, if_pos c10]
            exact ⟨⟨p6, p7, p8, p9, p10, trivial⟩, by decide⟩
          · have q := w10.mpr c10
            rw [if_pos q, if_pos q, if_neg c10]
            by_cases c11 : isW b tl e 11570
            · have q : ¬ r_X4_isWord M 11 = 0 := fun u => w11.mp u c11
              rw [if_neg q, if_neg q, if_pos c11]
              exact ⟨⟨p6, p7, p8, p9, p10, p11, trivial⟩, by decide⟩
            · have q := w11.mpr c11
              rw [if_pos q, if_pos q, if_neg c11]
              exact ⟨⟨p6, p7, p8, p9, p10, p11, trivial⟩, by decide⟩
theorem CRs.lw {k : Nat} (hk : k < 4) {a2 x2 : Int32} (ha : a2 = iI (k : Int)) (g : CG M b tl e) (dd : CDr M T S) (hv : Iv T S) (hT : T 0 3 = T0 0 3 ∧ (∀ k, T 4 k = T0 4 k) ∧ ∀ k, T 5 k = T0 5 k) : p_X4_readLaw M a2 ∧ p_X4_readSentence_128 (w_X4_readLaw M a2) x2 ∧ CRs (w_X4_readSentence_128 (w_X4_readLaw M a2) x2) b tl (aEn b tl (ALw b tl T S k e)) ∧ Fq qD M (w_X4_readSentence_128 (w_X4_readLaw M a2) x2) := by
  obtain ⟨y1, y2, y3, y4⟩ := c_law hk ha g dd hv.1
  have r1 : CRs (w_X4_readLaw M a2) b tl (ALw b tl T S k e) := by
    unfold ALw
    by_cases c : numOk b tl e (lwl k) (lwm k)
    · rw [aN_t c]; exact y2 c
    · rw [aN_f c]; exact y3 c
  obtain ⟨z1, z2, z3⟩ := c_end r1 (gd_ALw hv hT hk g.2.1) x2
  exact ⟨y1, z1, z2, y4.tr z3⟩
theorem c_sent (g : CG M b tl e) (dd : CDr M T S) (hv : Iv T S) (hT : T 0 3 = T0 0 3 ∧ (∀ k, T 4 k = T0 4 k) ∧ ∀ k, T 5 k = T0 5 k) : p_X4_readSentence M ∧ CRs (w_X4_readSentence M) b tl (aEn b tl (ACl b tl T S e)) ∧ Fq qD M (w_X4_readSentence M) := by
  obtain ⟨k1, k2⟩ := cx_kind g
  have kb := aKd_b b tl e
  have kq : (iI (aKd b tl e) < (0 : Int32)) ↔ aKd b tl e < 0 := by rw [cl0, iI_lt (by omega) (by omega) (by omega) (by omega)]
  obtain ⟨⟨v0, v1, v2, v3, v4⟩, -⟩ := wdv_v
  obtain ⟨p0, w0⟩ := g.isw (i := 0) (by omega) (by omega)
  obtain ⟨p1, w1⟩ := g.isw (i := 1) (by omega) (by omega)
  obtain ⟨p2, w2⟩ := g.isw (i := 2) (by omega) (by omega)
  obtain ⟨p3, w3⟩ := g.isw (i := 3) (by omega) (by omega)
  obtain ⟨p4, w4⟩ := g.isw (i := 4) (by omega) (by omega)
  rw [v0] at w0
  rw [v1] at w1
  rw [v2] at w2
  rw [v3] at w3
  rw [v4] at w4
  obtain ⟨a1, g1, m1⟩ := g.adv
  have d1 := dd.fc hv.1 m1
  unfold p_X4_readSentence w_X4_readSentence ACl
  rw [k2]
  by_cases c : 0 ≤ aKd b tl e
  · have q : ¬ iI (aKd b tl e) < (0 : Int32) := fun u => by have := kq.mp u; omega
    rw [if_neg q, if_neg q, if_pos c]
    obtain ⟨y1, y2, y3⟩ := c_work g dd hv ⟨c, kb.2⟩
    obtain ⟨z1, z2, z3⟩ := c_end y2 (gd_AWk hv hT ⟨c, kb.2⟩ g.2.1) (iI (aKd b tl e))
    exact ⟨⟨k1, y1, z1⟩, z2, y3.tr z3⟩
  · have q := kq.mpr (show aKd b tl e < 0 by omega)
    rw [if_pos q, if_pos q, if_neg c]
    by_cases c0 : isW b tl e 7220169
    · have q0 : ¬ r_X4_isWord M 0 = 0 := fun u => w0.mp u c0
      rw [if_neg q0, if_neg q0, if_pos c0]
      obtain ⟨y1, y2, y3⟩ := c_readM g dd hv.1
      obtain ⟨z1, z2, z3⟩ := c_end y2 (gd_AMv hv hT g.2.1) (iI (aKd b tl e))
      exact ⟨⟨k1, p0, y1, z1⟩, z2, y3.tr z3⟩
    · have q0 := w0.mpr c0
      rw [if_pos q0, if_pos q0, if_neg c0]
      by_cases c1 : isW b tl e 10793230
      · have q1 : ¬ r_X4_isWord M 1 = 0 := fun u => w1.mp u c1
        rw [if_neg q1, if_neg q1, if_pos c1]
        obtain ⟨y1, y2, y3⟩ := c_readT g dd hv.1
        obtain ⟨z1, z2, z3⟩ := c_end y2 (gd_ATh hv hT g.2.1) (iI (aKd b tl e))
        exact ⟨⟨k1, p0, p1, y1, z1⟩, z2, y3.tr z3⟩
      · have q1 := w1.mpr c1
        rw [if_pos q1, if_pos q1, if_neg c1]
        by_cases c2 : isW b tl e 12257559
        · have q2 : ¬ r_X4_isWord M 2 = 0 := fun u => w2.mp u c2
          rw [if_neg q2, if_neg q2, if_pos c2]
          obtain ⟨y1, y2, y3, y4⟩ := CRs.lw (k := 0) (a2 := 0) (x2 := iI (aKd b tl e)) (by omega) (by decide) g1 d1 hv hT
          exact ⟨⟨k1, p0, p1, p2, a1, y1, y2⟩, y3, (m1.mono qCD).tr y4⟩
        · have q2 := w2.mpr c2
          rw [if_pos q2, if_pos q2, if_neg c2]
          by_cases c3 : isW b tl e 60114
          · have q3 : ¬ r_X4_isWord M 3 = 0 := fun u => w3.mp u c3
            rw [if_neg q3, if_neg q3, if_pos c3]
            obtain ⟨y1, y2, y3, y4⟩ := c_law (k := 1) (a2 := 1) (by omega) (by decide) g1 d1 hv.1
            unfold p_X4_readSentence_87 w_X4_readSentence_87 p_X4_readSentence_93 w_X4_readSentence_93 ALc
            by_cases cn : numOk b tl (tkE b tl e) 0 8
            · obtain ⟨g2, d2⟩ := y2 cn
              rw [aN_t cn]
              obtain ⟨z1, z2, z3, z4⟩ := CRs.lw (T0 := T0) (k := 2) (a2 := 2) (x2 := iI (aKd b tl e)) (by omega) (by decide) g2 d2 (hv.law (k := 1) (by omega) cn.2) ⟨by rw [tU_n (by omega)]; exact hT.1, fun j => by rw [tU_n (by omega)]; exact hT.2.1 j, fun j => by rw [tU_n (by omega)]; exact hT.2.2 j⟩
              exact ⟨⟨k1, p0, p1, p2, p3, a1, y1, z1, z2⟩, z3, ((m1.mono qCD).tr y4).tr z4⟩
            · have g2 := y3 cn
              rw [aN_f cn]
              obtain ⟨o1, o2⟩ := f_law (k := 2) (a2 := 2) (by omega) (by decide) g2
              rw [o2]
              obtain ⟨z1, z2, z3⟩ := c_end (T0 := T0) (e0 := 0) (r := .inl (tkS b tl (tkE b tl e))) g2 (tk_st b g1.2.1).2.1 (iI (aKd b tl e))
              exact ⟨⟨k1, p0, p1, p2, p3, a1, y1, o1, z1⟩, z2, ((m1.mono qCD).tr y4).tr z3⟩
          · have q3 := w3.mpr c3
            rw [if_pos q3, if_pos q3, if_neg c3]
            by_cases c4 : isW b tl e 43347
            · have q4 : ¬ r_X4_isWord M 4 = 0 := fun u => w4.mp u c4
              rw [if_neg q4, if_neg q4, if_pos c4]
              obtain ⟨y1, y2, y3, y4⟩ := CRs.lw (k := 3) (a2 := 3) (x2 := iI (aKd b tl e)) (by omega) (by decide) g1 d1 hv hT
              exact ⟨⟨k1, p0, p1, p2, p3, p4, a1, y1, y2⟩, y3, (m1.mono qCD).tr y4⟩
            · have q4 := w4.mpr c4
              rw [if_pos q4, if_pos q4, if_neg c4, g.fail]
              obtain ⟨z1, z2, z3⟩ := c_end (T0 := T0) (e0 := 0) (r := .inl (tkS b tl e)) g.fl.1 (tk_st b g.2.1).2.1 (iI (aKd b tl e))
              exact ⟨⟨k1, p0, p1, p2, p3, p4, z1⟩, z2, (g.fl.2.mono qCD).tr z3⟩
end PA6
