/-! a sentence read: the reference -/
section PA8
variable {M M' : Mm} {b : Nat → Int} {tl e p : Nat} {T S T0 : Tw} {x y : Int} {r : Rr}
theorem f610_47 (g : RF M p) (a2 a3 a4 x5 x6 : Int32) : p_X8_wantOne_610_47 M a2 a3 a4 x5 x6 ∧ r_X8_wantOne_610_47 M a2 a3 a4 x5 x6 = 0 ∧ RF (w_X8_wantOne_610_47 M a2 a3 a4 x5 x6) p ∧ Fq qV M (w_X8_wantOne_610_47 M a2 a3 a4 x5 x6) := by
  unfold p_X8_wantOne_610_47 r_X8_wantOne_610_47 w_X8_wantOne_610_47
  rw [if_pos g.1, if_pos g.1, if_pos g.1]
  exact ⟨⟨Or.inl g.1, trivial⟩, g.1, g, Fq.rf⟩
theorem f610_43 (g : RF M p) (a2 a3 a4 x5 x6 : Int32) : p_X8_wantOne_610_43 M a2 a3 a4 x5 x6 ∧ r_X8_wantOne_610_43 M a2 a3 a4 x5 x6 = 0 ∧ RF (w_X8_wantOne_610_43 M a2 a3 a4 x5 x6) p ∧ Fq qV M (w_X8_wantOne_610_43 M a2 a3 a4 x5 x6) := by
  unfold p_X8_wantOne_610_43 r_X8_wantOne_610_43 w_X8_wantOne_610_43
  obtain ⟨n1, n2, n3⟩ := g.wend
  obtain ⟨y1, y2, y3, y4⟩ := f610_47 n2 a2 a3 a4 x5 x6
  exact ⟨⟨n1, y1⟩, y2, y3, n3.tr y4⟩
theorem f610_34 (g : RF M p) (a2 a3 a4 x5 : Int32) : p_X8_wantOne_610_34 M a2 a3 a4 x5 ∧ r_X8_wantOne_610_34 M a2 a3 a4 x5 = 0 ∧ RF (w_X8_wantOne_610_34 M a2 a3 a4 x5) p ∧ Fq qV M (w_X8_wantOne_610_34 M a2 a3 a4 x5) := by
  unfold p_X8_wantOne_610_34 r_X8_wantOne_610_34 w_X8_wantOne_610_34
  obtain ⟨n1, n2, n3⟩ := g.num 1 a4
  obtain ⟨y1, y2, y3, y4⟩ := f610_43 n2 a2 a3 a4 x5 (r_X8_wantNumber M 1 a4)
  exact ⟨⟨n1, y1⟩, y2, y3, n3.tr y4⟩
theorem f610_25 (g : RF M p) (a2 a3 a4 : Int32) : p_X8_wantOne_610_25 M a2 a3 a4 ∧ r_X8_wantOne_610_25 M a2 a3 a4 = 0 ∧ RF (w_X8_wantOne_610_25 M a2 a3 a4) p ∧ Fq qV M (w_X8_wantOne_610_25 M a2 a3 a4) := by
  unfold p_X8_wantOne_610_25 r_X8_wantOne_610_25 w_X8_wantOne_610_25
  obtain ⟨n1, n2, n3⟩ := g.num 0 9
  obtain ⟨y1, y2, y3, y4⟩ := f610_34 n2 a2 a3 a4 (r_X8_wantNumber M 0 9)
  exact ⟨⟨n1, y1⟩, y2, y3, n3.tr y4⟩
def W610 (c v : Int32) (M : Mm) : Mm := if v = 0 then wi M 600 22 (c + 0) else wi M 600 22 (c + 1)
theorem W610_f {c v : Int32} (g : RF M p) (hv : v = 0) : RF (W610 c v M) p ∧ Fq qR M (W610 c v M) := by
  unfold W610
  rw [if_pos hv]
  exact ⟨g.of (fun k u v => rd_ne (Or.inr (by omega))), Fq.wi Fq.rf (by show _ ∨ _; omega)⟩
theorem r610_47 (g : RG M b tl e) (dd : RDr M T S) (hI : InvT T) (h2 : T 0 0 < 3) (a3 a4 : Int32) : p_X8_wantOne_610_47 M (iI (T 0 0)) a3 a4 (iI x) (iI y) ∧ RRs (W610 (iI (T 0 0)) (r_X8_wantOne_610_47 M (iI (T 0 0)) a3 a4 (iI x) (iI y)) (w_X8_wantOne_610_47 M (iI (T 0 0)) a3 a4 (iI x) (iI y))) b tl (.inr (e, tU (tU T 1 (T 0 0).toNat y) 0 0 (T 0 0 + 1), tU S 0 (T 0 0).toNat x)) ∧ Fq qR M (W610 (iI (T 0 0)) (r_X8_wantOne_610_47 M (iI (T 0 0)) a3 a4 (iI x) (iI y)) (w_X8_wantOne_610_47 M (iI (T 0 0)) a3 a4 (iI x) (iI y))) := by
  have hc := hI.1
  have n0 : Int32.toNatClampNeg ((2 : Int32) * iI (T 0 0)) = 2 * (T 0 0).toNat := by rw [cl2, iI_mul]; exact natk (by omega) (by omega)
  have n1 : Int32.toNatClampNeg ((2 : Int32) * iI (T 0 0) + 1) = 2 * (T 0 0).toNat + 1 := by rw [cl2, cl1, iI_mul, iI_add]; exact natk (by omega) (by omega)
  have v0 : vp_in ((2 : Int32) * iI (T 0 0)) 6 := by rw [cl2, iI_mul]; exact vin_iI (by omega) (by omega) (by omega)
  have v1 : vp_in ((2 : Int32) * iI (T 0 0) + 1) 6 := by rw [cl2, cl1, iI_mul, iI_add]; exact vin_iI (by omega) (by omega) (by omega)
  have e1 : iI (T 0 0) + 1 = iI (T 0 0 + 1) := by rw [cl1, iI_add]
  unfold p_X8_wantOne_610_47 r_X8_wantOne_610_47 w_X8_wantOne_610_47
  rw [if_neg g.flag, if_neg g.flag, if_neg g.flag, n0, n1]
  have fl : (wi (wi M 610 (2 * (T 0 0).toNat) (iI x)) 610 (2 * (T 0 0).toNat + 1) (iI y)).1 600 21 = 1 := by rw [rd_ne (Or.inl (by omega)), rd_ne (Or.inl (by omega))]; exact g.2.2.2
  rw [fl]
  unfold W610
  rw [if_neg (by decide : ¬ (1 : Int32) = 0), e1]
  have F : Fq (fun a k => (a = 610 ∧ (k = 2 * (T 0 0).toNat ∨ k = 2 * (T 0 0).toNat + 1)) ∨ (a = 600 ∧ k = 22)) M (wi (wi (wi M 610 (2 * (T 0 0).toNat) (iI x)) 610 (2 * (T 0 0).toNat + 1) (iI y)) 600 22 (iI (T 0 0 + 1))) := Fq.wi (Fq.wi (Fq.wi Fq.rf (by omega)) (by omega)) (by omega)
  refine ⟨⟨v0, v1, Or.inr rfl, trivial⟩, ⟨g.of (fun a k u => F.1 a k (by omega)) rfl, ?_⟩, F.mono (fun a k u => by show _ ∨ _; omega)⟩
  have s0 : (wi (wi (wi M 610 (2 * (T 0 0).toNat) (iI x)) 610 (2 * (T 0 0).toNat + 1) (iI y)) 600 22 (iI (T 0 0 + 1))).1 610 (2 * (T 0 0).toNat) = iI x := by rw [rd_ne (Or.inl (by omega)), rd_ne (Or.inr (by omega)), rd_same]
  have s1 : (wi (wi (wi M 610 (2 * (T 0 0).toNat) (iI x)) 610 (2 * (T 0 0).toNat + 1) (iI y)) 600 22 (iI (T 0 0 + 1))).1 610 (2 * (T 0 0).toNat + 1) = iI y := by rw [rd_ne (Or.inl (by omega)), rd_same]
  have s2 : (wi (wi (wi M 610 (2 * (T 0 0).toNat) (iI x)) 610 (2 * (T 0 0).toNat + 1) (iI y)) 600 22 (iI (T 0 0 + 1))).1 600 22 = iI (T 0 0 + 1) := rd_same ..
  generalize wi (wi (wi M 610 (2 * (T 0 0).toNat) (iI x)) 610 (2 * (T 0 0).toNat + 1) (iI y)) 600 22 (iI (T 0 0 + 1)) = D at F s0 s1 s2 ⊢
  obtain ⟨⟨c0, c1, c2⟩, c3, c4, c5, c6⟩ := dd
  have u0 : tU (tU T 1 (T 0 0).toNat y) 0 0 (T 0 0 + 1) 0 0 = T 0 0 + 1 := tU_s ..
  have uo : ∀ k, k ≠ 0 → tU (tU T 1 (T 0 0).toNat y) 0 0 (T 0 0 + 1) 0 k = T 0 k := fun k hk => by rw [tU_n (by omega), tU_n (by omega)]
  have ua : ∀ a k, a ≠ 0 → a ≠ 1 → tU (tU T 1 (T 0 0).toNat y) 0 0 (T 0 0 + 1) a k = T a k := fun a k h1 h2 => by rw [tU_n (by omega), tU_n (by omega)]
  have us : ∀ a k, a ≠ 0 → tU S 0 (T 0 0).toNat x a k = S a k := fun a k h1 => tU_n (by omega)
  refine ⟨⟨?_, ?_, ?_⟩, fun z h0 hz => ?_, fun z h0 hz => ?_, fun j hj => ?_, fun w f hw hf => ?_⟩
  · rw [u0]; exact s2
  · rw [uo _ (by omega), F.1 _ _ (by omega)]; exact c1
  · rw [uo _ (by omega), F.1 _ _ (by omega)]; exact c2
  · rw [u0] at hz
    by_cases q : z.toNat = (T 0 0).toNat
    · rw [q, tU_s, tU_n (by omega), tU_s]; exact ⟨s0, s1⟩
    · rw [tU_n (by omega), tU_n (by omega), tU_n (by omega), F.1 _ _ (by omega), F.1 _ _ (by omega)]; exact c3 z h0 (by omega)
  · rw [uo _ (by omega)] at hz
    rw [us _ _ (by omega), ua _ _ (by omega) (by omega), F.1 _ _ (by omega), F.1 _ _ (by omega)]; exact c4 z h0 hz
  · rw [ua _ _ (by omega) (by omega), F.1 _ _ (by omega)]; exact c5 j hj
  · rw [uo _ (by omega)] at hw
    rw [ua _ _ (by omega) (by omega), F.1 _ _ (by omega)]; exact c6 w f hw hf
theorem r610_43 (g : RG M b tl e) (dd : RDr M T S) (hI : InvT T) (h2 : T 0 0 < 3) (a3 a4 : Int32) : p_X8_wantOne_610_43 M (iI (T 0 0)) a3 a4 (iI x) (iI y) ∧ RRs (W610 (iI (T 0 0)) (r_X8_wantOne_610_43 M (iI (T 0 0)) a3 a4 (iI x) (iI y)) (w_X8_wantOne_610_43 M (iI (T 0 0)) a3 a4 (iI x) (iI y))) b tl (aEn b tl (.inr (e, tU (tU T 1 (T 0 0).toNat y) 0 0 (T 0 0 + 1), tU S 0 (T 0 0).toNat x))) ∧ Fq qR M (W610 (iI (T 0 0)) (r_X8_wantOne_610_43 M (iI (T 0 0)) a3 a4 (iI x) (iI y)) (w_X8_wantOne_610_43 M (iI (T 0 0)) a3 a4 (iI x) (iI y))) := by
  obtain ⟨n1, n2, n3, n4⟩ := g.wend
  unfold p_X8_wantOne_610_43 r_X8_wantOne_610_43 w_X8_wantOne_610_43
  show _ ∧ RRs _ b tl (if isE b tl e then .inr (tkE b tl e, tU (tU T 1 (T 0 0).toNat y) 0 0 (T 0 0 + 1), tU S 0 (T 0 0).toNat x) else .inl (tkS b tl e)) ∧ _
  by_cases c : isE b tl e
  · rw [if_pos c]
    obtain ⟨y1, y2, y3⟩ := r610_47 (x := x) (y := y) (n2 c) (dd.fv n4) hI h2 a3 a4
    exact ⟨⟨n1, y1⟩, y2, (n4.mono qVR).tr y3⟩
  · rw [if_neg c]
    obtain ⟨y1, y2, y3, y4⟩ := f610_47 (n3 c) (iI (T 0 0)) a3 a4 (iI x) (iI y)
    obtain ⟨z1, z2⟩ := W610_f (c := iI (T 0 0)) y3 y2
    exact ⟨⟨n1, y1⟩, z1, ((n4.tr y4).mono qVR).tr z2⟩
theorem r610_25 (g : RG M b tl e) (dd : RDr M T S) (hI : InvT T) (h2 : T 0 0 < 3) (a3 : Int32) : p_X8_wantOne_610_25 M (iI (T 0 0)) a3 5 ∧ RRs (W610 (iI (T 0 0)) (r_X8_wantOne_610_25 M (iI (T 0 0)) a3 5) (w_X8_wantOne_610_25 M (iI (T 0 0)) a3 5)) b tl (aEn b tl (aN b tl 0 9 e fun x e => aN b tl 1 5 e fun y e => .inr (e, tU (tU T 1 (T 0 0).toNat y) 0 0 (T 0 0 + 1), tU S 0 (T 0 0).toNat x))) ∧ Fq qR M (W610 (iI (T 0 0)) (r_X8_wantOne_610_25 M (iI (T 0 0)) a3 5) (w_X8_wantOne_610_25 M (iI (T 0 0)) a3 5)) := by
  obtain ⟨n1, n2, n3, n4, n5⟩ := g.num (lo := 0) (hi := 9) (by omega) (by omega)
  rw [← cl0, ← cl9] at n1 n2 n3 n4 n5
  have d1 := dd.fv n5
  unfold p_X8_wantOne_610_25 r_X8_wantOne_610_25 w_X8_wantOne_610_25
  rw [n2]
  generalize w_X8_wantNumber M 0 9 = M1 at n3 n4 n5 d1 ⊢
  by_cases c : numOk b tl e 0 9
  · rw [aN_t c]
    have g1 := n3 c
    obtain ⟨o1, o2, o3, o4, o5⟩ := g1.num (lo := 1) (hi := 5) (by omega) (by omega)
    rw [← cl1, ← cl5] at o1 o2 o3 o4 o5
    have d2 := d1.fv o5
    unfold p_X8_wantOne_610_34 r_X8_wantOne_610_34 w_X8_wantOne_610_34
    rw [o2]
    generalize w_X8_wantNumber M1 1 5 = M2 at o3 o4 o5 d2 ⊢
    by_cases c2 : numOk b tl (tkE b tl e) 1 5
    · rw [aN_t c2]
      obtain ⟨y1, y2, y3⟩ := r610_43 (x := tkV b tl e) (y := tkV b tl (tkE b tl e)) (o3 c2) d2 hI h2 a3 5
      exact ⟨⟨n1, o1, y1⟩, y2, ((n5.tr o5).mono qVR).tr y3⟩
    · rw [aN_f c2]
      obtain ⟨y1, y2, y3, y4⟩ := f610_43 (o4 c2) (iI (T 0 0)) a3 5 (iI (tkV b tl e)) (iI (tkV b tl (tkE b tl e)))
      obtain ⟨z1, z2⟩ := W610_f (c := iI (T 0 0)) y3 y2
      exact ⟨⟨n1, o1, y1⟩, z1, (((n5.tr o5).tr y4).mono qVR).tr z2⟩
  · rw [aN_f c]
    obtain ⟨y1, y2, y3, y4⟩ := f610_34 (n4 c) (iI (T 0 0)) a3 5 (iI (tkV b tl e))
    obtain ⟨z1, z2⟩ := W610_f (c := iI (T 0 0)) y3 y2
    exact ⟨⟨n1, y1⟩, z1, ((n5.tr y4).mono qVR).tr z2⟩
theorem r_one610 (g : RG M b tl e) (dd : RDr M T S) (hI : InvT T) : p_X8_wantOne_610 M (M.1 600 22) 3 5 ∧ RRs (W610 (M.1 600 22) (r_X8_wantOne_610 M (M.1 600 22) 3 5) (w_X8_wantOne_610 M (M.1 600 22) 3 5)) b tl (aEn b tl (AMv b tl T S e)) ∧ Fq qR M (W610 (M.1 600 22) (r_X8_wantOne_610 M (M.1 600 22) 3 5) (w_X8_wantOne_610 M (M.1 600 22) 3 5)) := by
  have hc := hI.1
  rw [dd.1.1]
  have q : ((3 : Int32) ≤ iI (T 0 0)) ↔ ¬ T 0 0 < 3 := by rw [cl3, iI_le (by omega) (by omega) (by omega) (by omega)]; omega
  unfold p_X8_wantOne_610 r_X8_wantOne_610 w_X8_wantOne_610 AMv p_X8_wantOne_610_14 r_X8_wantOne_610_14 w_X8_wantOne_610_14
  by_cases h2 : T 0 0 < 3
  · have q' : ¬ (3 : Int32) ≤ iI (T 0 0) := fun u => q.mp u h2
    have w1 : ¬ (wi M 600 21 1).1 600 21 = 0 := by rw [rd_same]; decide
    rw [if_neg q', if_neg q', if_neg q', if_pos h2, if_neg w1, if_neg w1, if_neg w1]
    obtain ⟨a1, g1, m1⟩ := g.adv1
    obtain ⟨y1, y2, y3⟩ := r610_25 g1 (dd.fv m1) hI h2 3
    exact ⟨⟨a1, y1⟩, y2, (m1.mono qVR).tr y3⟩
  · have w0 : (wi M 600 21 0).1 600 21 = 0 := rd_same ..
    rw [if_pos (q.mpr h2), if_pos (q.mpr h2), if_pos (q.mpr h2), if_neg h2, if_pos w0, if_pos w0, if_pos w0]
    obtain ⟨f1, f2⟩ := g.fl
    obtain ⟨y1, y2, y3, y4⟩ := f610_25 f1 (iI (T 0 0)) 3 5
    obtain ⟨z1, z2⟩ := W610_f (c := iI (T 0 0)) y3 y2
    exact ⟨y1, z1, ((f2.tr y4).mono qVR).tr z2⟩
theorem f611_47 (g : RF M p) (a2 a3 a4 x5 x6 : Int32) : p_X8_wantOne_611_47 M a2 a3 a4 x5 x6 ∧ r_X8_wantOne_611_47 M a2 a3 a4 x5 x6 = 0 ∧ RF (w_X8_wantOne_611_47 M a2 a3 a4 x5 x6) p ∧ Fq qV M (w_X8_wantOne_611_47 M a2 a3 a4 x5 x6) := by
  unfold p_X8_wantOne_611_47 r_X8_wantOne_611_47 w_X8_wantOne_611_47
  rw [if_pos g.1, if_pos g.1, if_pos g.1]
  exact ⟨⟨Or.inl g.1, trivial⟩, g.1, g, Fq.rf⟩
theorem f611_43 (g : RF M p) (a2 a3 a4 x5 x6 : Int32) : p_X8_wantOne_611_43 M a2 a3 a4 x5 x6 ∧ r_X8_wantOne_611_43 M a2 a3 a4 x5 x6 = 0 ∧ RF (w_X8_wantOne_611_43 M a2 a3 a4 x5 x6) p ∧ Fq qV M (w_X8_wantOne_611_43 M a2 a3 a4 x5 x6) := by
  unfold p_X8_wantOne_611_43 r_X8_wantOne_611_43 w_X8_wantOne_611_43
  obtain ⟨n1, n2, n3⟩ := g.wend
  obtain ⟨y1, y2, y3, y4⟩ := f611_47 n2 a2 a3 a4 x5 x6
  exact ⟨⟨n1, y1⟩, y2, y3, n3.tr y4⟩
theorem f611_34 (g : RF M p) (a2 a3 a4 x5 : Int32) : p_X8_wantOne_611_34 M a2 a3 a4 x5 ∧ r_X8_wantOne_611_34 M a2 a3 a4 x5 = 0 ∧ RF (w_X8_wantOne_611_34 M a2 a3 a4 x5) p ∧ Fq qV M (w_X8_wantOne_611_34 M a2 a3 a4 x5) := by
  unfold p_X8_wantOne_611_34 r_X8_wantOne_611_34 w_X8_wantOne_611_34
  obtain ⟨n1, n2, n3⟩ := g.num 1 a4
  obtain ⟨y1, y2, y3, y4⟩ := f611_43 n2 a2 a3 a4 x5 (r_X8_wantNumber M 1 a4)
  exact ⟨⟨n1, y1⟩, y2, y3, n3.tr y4⟩
theorem f611_25 (g : RF M p) (a2 a3 a4 : Int32) : p_X8_wantOne_611_25 M a2 a3 a4 ∧ r_X8_wantOne_611_25 M a2 a3 a4 = 0 ∧ RF (w_X8_wantOne_611_25 M a2 a3 a4) p ∧ Fq qV M (w_X8_wantOne_611_25 M a2 a3 a4) := by
  unfold p_X8_wantOne_611_25 r_X8_wantOne_611_25 w_X8_wantOne_611_25
  obtain ⟨n1, n2, n3⟩ := g.num 0 9
  obtain ⟨y1, y2, y3, y4⟩ := f611_34 n2 a2 a3 a4 (r_X8_wantNumber M 0 9)
  exact ⟨⟨n1, y1⟩, y2, y3, n3.tr y4⟩
def W611 (c v : Int32) (M : Mm) : Mm := if v = 0 then wi M 600 23 (c + 0) else wi M 600 23 (c + 1)
theorem W611_f {c v : Int32} (g : RF M p) (hv : v = 0) : RF (W611 c v M) p ∧ Fq qR M (W611 c v M) := by
  unfold W611
  rw [if_pos hv]
  exact ⟨g.of (fun k u v => rd_ne (Or.inr (by omega))), Fq.wi Fq.rf (by show _ ∨ _; omega)⟩
theorem r611_47 (g : RG M b tl e) (dd : RDr M T S) (hI : InvT T) (h2 : T 0 1 < 6) (a3 a4 : Int32) : p_X8_wantOne_611_47 M (iI (T 0 1)) a3 a4 (iI x) (iI y) ∧ RRs (W611 (iI (T 0 1)) (r_X8_wantOne_611_47 M (iI (T 0 1)) a3 a4 (iI x) (iI y)) (w_X8_wantOne_611_47 M (iI (T 0 1)) a3 a4 (iI x) (iI y))) b tl (.inr (e, tU (tU T 2 (T 0 1).toNat y) 0 1 (T 0 1 + 1), tU S 1 (T 0 1).toNat x)) ∧ Fq qR M (W611 (iI (T 0 1)) (r_X8_wantOne_611_47 M (iI (T 0 1)) a3 a4 (iI x) (iI y)) (w_X8_wantOne_611_47 M (iI (T 0 1)) a3 a4 (iI x) (iI y))) := by
  have hc := hI.1
  have n0 : Int32.toNatClampNeg ((2 : Int32) * iI (T 0 1)) = 2 * (T 0 1).toNat := by rw [cl2, iI_mul]; exact natk (by omega) (by omega)
  have n1 : Int32.toNatClampNeg ((2 : Int32) * iI (T 0 1) + 1) = 2 * (T 0 1).toNat + 1 := by rw [cl2, cl1, iI_mul, iI_add]; exact natk (by omega) (by omega)
  have v0 : vp_in ((2 : Int32) * iI (T 0 1)) 12 := by rw [cl2, iI_mul]; exact vin_iI (by omega) (by omega) (by omega)
  have v1 : vp_in ((2 : Int32) * iI (T 0 1) + 1) 12 := by rw [cl2, cl1, iI_mul, iI_add]; exact vin_iI (by omega) (by omega) (by omega)
  have e1 : iI (T 0 1) + 1 = iI (T 0 1 + 1) := by rw [cl1, iI_add]
  unfold p_X8_wantOne_611_47 r_X8_wantOne_611_47 w_X8_wantOne_611_47
  rw [if_neg g.flag, if_neg g.flag, if_neg g.flag, n0, n1]
  have fl : (wi (wi M 611 (2 * (T 0 1).toNat) (iI x)) 611 (2 * (T 0 1).toNat + 1) (iI y)).1 600 21 = 1 := by rw [rd_ne (Or.inl (by omega)), rd_ne (Or.inl (by omega))]; exact g.2.2.2
  rw [fl]
  unfold W611
  rw [if_neg (by decide : ¬ (1 : Int32) = 0), e1]
  have F : Fq (fun a k => (a = 611 ∧ (k = 2 * (T 0 1).toNat ∨ k = 2 * (T 0 1).toNat + 1)) ∨ (a = 600 ∧ k = 23)) M (wi (wi (wi M 611 (2 * (T 0 1).toNat) (iI x)) 611 (2 * (T 0 1).toNat + 1) (iI y)) 600 23 (iI (T 0 1 + 1))) := Fq.wi (Fq.wi (Fq.wi Fq.rf (by omega)) (by omega)) (by omega)
  refine ⟨⟨v0, v1, Or.inr rfl, trivial⟩, ⟨g.of (fun a k u => F.1 a k (by omega)) rfl, ?_⟩, F.mono (fun a k u => by show _ ∨ _; omega)⟩
  have s0 : (wi (wi (wi M 611 (2 * (T 0 1).toNat) (iI x)) 611 (2 * (T 0 1).toNat + 1) (iI y)) 600 23 (iI (T 0 1 + 1))).1 611 (2 * (T 0 1).toNat) = iI x := by rw [rd_ne (Or.inl (by omega)), rd_ne (Or.inr (by omega)), rd_same]
  have s1 : (wi (wi (wi M 611 (2 * (T 0 1).toNat) (iI x)) 611 (2 * (T 0 1).toNat + 1) (iI y)) 600 23 (iI (T 0 1 + 1))).1 611 (2 * (T 0 1).toNat + 1) = iI y := by rw [rd_ne (Or.inl (by omega)), rd_same]
  have s2 : (wi (wi (wi M 611 (2 * (T 0 1).toNat) (iI x)) 611 (2 * (T 0 1).toNat + 1) (iI y)) 600 23 (iI (T 0 1 + 1))).1 600 23 = iI (T 0 1 + 1) := rd_same ..
  generalize wi (wi (wi M 611 (2 * (T 0 1).toNat) (iI x)) 611 (2 * (T 0 1).toNat + 1) (iI y)) 600 23 (iI (T 0 1 + 1)) = D at F s0 s1 s2 ⊢
  obtain ⟨⟨c0, c1, c2⟩, c3, c4, c5, c6⟩ := dd
  have u0 : tU (tU T 2 (T 0 1).toNat y) 0 1 (T 0 1 + 1) 0 1 = T 0 1 + 1 := tU_s ..
  have uo : ∀ k, k ≠ 1 → tU (tU T 2 (T 0 1).toNat y) 0 1 (T 0 1 + 1) 0 k = T 0 k := fun k hk => by rw [tU_n (by omega), tU_n (by omega)]
  have ua : ∀ a k, a ≠ 0 → a ≠ 2 → tU (tU T 2 (T 0 1).toNat y) 0 1 (T 0 1 + 1) a k = T a k := fun a k h1 h2 => by rw [tU_n (by omega), tU_n (by omega)]
  have us : ∀ a k, a ≠ 1 → tU S 1 (T 0 1).toNat x a k = S a k := fun a k h1 => tU_n (by omega)
  refine ⟨⟨?_, ?_, ?_⟩, fun z h0 hz => ?_, fun z h0 hz => ?_, fun j hj => ?_, fun w f hw hf => ?_⟩
  · rw [uo _ (by omega), F.1 _ _ (by omega)]; exact c0
  · rw [u0]; exact s2
  · rw [uo _ (by omega), F.1 _ _ (by omega)]; exact c2
  · rw [uo _ (by omega)] at hz
    rw [us _ _ (by omega), ua _ _ (by omega) (by omega), F.1 _ _ (by omega), F.1 _ _ (by omega)]; exact c3 z h0 hz
  · rw [u0] at hz
    by_cases q : z.toNat = (T 0 1).toNat
    · rw [q, tU_s, tU_n (by omega), tU_s]; exact ⟨s0, s1⟩
    · rw [tU_n (by omega), tU_n (by omega), tU_n (by omega), F.1 _ _ (by omega), F.1 _ _ (by omega)]; exact c4 z h0 (by omega)
  · rw [ua _ _ (by omega) (by omega), F.1 _ _ (by omega)]; exact c5 j hj
  · rw [uo _ (by omega)] at hw
    rw [ua _ _ (by omega) (by omega), F.1 _ _ (by omega)]; exact c6 w f hw hf
theorem r611_43 (g : RG M b tl e) (dd : RDr M T S) (hI : InvT T) (h2 : T 0 1 < 6) (a3 a4 : Int32) : p_X8_wantOne_611_43 M (iI (T 0 1)) a3 a4 (iI x) (iI y) ∧ RRs (W611 (iI (T 0 1)) (r_X8_wantOne_611_43 M (iI (T 0 1)) a3 a4 (iI x) (iI y)) (w_X8_wantOne_611_43 M (iI (T 0 1)) a3 a4 (iI x) (iI y))) b tl (aEn b tl (.inr (e, tU (tU T 2 (T 0 1).toNat y) 0 1 (T 0 1 + 1), tU S 1 (T 0 1).toNat x))) ∧ Fq qR M (W611 (iI (T 0 1)) (r_X8_wantOne_611_43 M (iI (T 0 1)) a3 a4 (iI x) (iI y)) (w_X8_wantOne_611_43 M (iI (T 0 1)) a3 a4 (iI x) (iI y))) := by
  obtain ⟨n1, n2, n3, n4⟩ := g.wend
  unfold p_X8_wantOne_611_43 r_X8_wantOne_611_43 w_X8_wantOne_611_43
  show _ ∧ RRs _ b tl (if isE b tl e then .inr (tkE b tl e, tU (tU T 2 (T 0 1).toNat y) 0 1 (T 0 1 + 1), tU S 1 (T 0 1).toNat x) else .inl (tkS b tl e)) ∧ _
  by_cases c : isE b tl e
  · rw [if_pos c]
    obtain ⟨y1, y2, y3⟩ := r611_47 (x := x) (y := y) (n2 c) (dd.fv n4) hI h2 a3 a4
    exact ⟨⟨n1, y1⟩, y2, (n4.mono qVR).tr y3⟩
  · rw [if_neg c]
    obtain ⟨y1, y2, y3, y4⟩ := f611_47 (n3 c) (iI (T 0 1)) a3 a4 (iI x) (iI y)
    obtain ⟨z1, z2⟩ := W611_f (c := iI (T 0 1)) y3 y2
    exact ⟨⟨n1, y1⟩, z1, ((n4.tr y4).mono qVR).tr z2⟩
theorem r611_25 (g : RG M b tl e) (dd : RDr M T S) (hI : InvT T) (h2 : T 0 1 < 6) (a3 : Int32) : p_X8_wantOne_611_25 M (iI (T 0 1)) a3 9 ∧ RRs (W611 (iI (T 0 1)) (r_X8_wantOne_611_25 M (iI (T 0 1)) a3 9) (w_X8_wantOne_611_25 M (iI (T 0 1)) a3 9)) b tl (aEn b tl (aN b tl 0 9 e fun x e => aN b tl 1 9 e fun y e => .inr (e, tU (tU T 2 (T 0 1).toNat y) 0 1 (T 0 1 + 1), tU S 1 (T 0 1).toNat x))) ∧ Fq qR M (W611 (iI (T 0 1)) (r_X8_wantOne_611_25 M (iI (T 0 1)) a3 9) (w_X8_wantOne_611_25 M (iI (T 0 1)) a3 9)) := by
  obtain ⟨n1, n2, n3, n4, n5⟩ := g.num (lo := 0) (hi := 9) (by omega) (by omega)
  rw [← cl0, ← cl9] at n1 n2 n3 n4 n5
  have d1 := dd.fv n5
  unfold p_X8_wantOne_611_25 r_X8_wantOne_611_25 w_X8_wantOne_611_25
  rw [n2]
  generalize w_X8_wantNumber M 0 9 = M1 at n3 n4 n5 d1 ⊢
  by_cases c : numOk b tl e 0 9
  · rw [aN_t c]
    have g1 := n3 c
    obtain ⟨o1, o2, o3, o4, o5⟩ := g1.num (lo := 1) (hi := 9) (by omega) (by omega)
    rw [← cl1, ← cl9] at o1 o2 o3 o4 o5
    have d2 := d1.fv o5
    unfold p_X8_wantOne_611_34 r_X8_wantOne_611_34 w_X8_wantOne_611_34
    rw [o2]
    generalize w_X8_wantNumber M1 1 9 = M2 at o3 o4 o5 d2 ⊢
    by_cases c2 : numOk b tl (tkE b tl e) 1 9
    · rw [aN_t c2]
      obtain ⟨y1, y2, y3⟩ := r611_43 (x := tkV b tl e) (y := tkV b tl (tkE b tl e)) (o3 c2) d2 hI h2 a3 9
      exact ⟨⟨n1, o1, y1⟩, y2, ((n5.tr o5).mono qVR).tr y3⟩
    · rw [aN_f c2]
      obtain ⟨y1, y2, y3, y4⟩ := f611_43 (o4 c2) (iI (T 0 1)) a3 9 (iI (tkV b tl e)) (iI (tkV b tl (tkE b tl e)))
      obtain ⟨z1, z2⟩ := W611_f (c := iI (T 0 1)) y3 y2
      exact ⟨⟨n1, o1, y1⟩, z1, (((n5.tr o5).tr y4).mono qVR).tr z2⟩
  · rw [aN_f c]
    obtain ⟨y1, y2, y3, y4⟩ := f611_34 (n4 c) (iI (T 0 1)) a3 9 (iI (tkV b tl e))
    obtain ⟨z1, z2⟩ := W611_f (c := iI (T 0 1)) y3 y2
    exact ⟨⟨n1, y1⟩, z1, ((n5.tr y4).mono qVR).tr z2⟩
theorem r_one611 (g : RG M b tl e) (dd : RDr M T S) (hI : InvT T) : p_X8_wantOne_611 M (M.1 600 23) 6 9 ∧ RRs (W611 (M.1 600 23) (r_X8_wantOne_611 M (M.1 600 23) 6 9) (w_X8_wantOne_611 M (M.1 600 23) 6 9)) b tl (aEn b tl (ATh b tl T S e)) ∧ Fq qR M (W611 (M.1 600 23) (r_X8_wantOne_611 M (M.1 600 23) 6 9) (w_X8_wantOne_611 M (M.1 600 23) 6 9)) := by
  have hc := hI.1
  rw [dd.1.2.1]
  have q : ((6 : Int32) ≤ iI (T 0 1)) ↔ ¬ T 0 1 < 6 := by rw [cl6, iI_le (by omega) (by omega) (by omega) (by omega)]; omega
  unfold p_X8_wantOne_611 r_X8_wantOne_611 w_X8_wantOne_611 ATh p_X8_wantOne_611_14 r_X8_wantOne_611_14 w_X8_wantOne_611_14
  by_cases h2 : T 0 1 < 6
  · have q' : ¬ (6 : Int32) ≤ iI (T 0 1) := fun u => q.mp u h2
    have w1 : ¬ (wi M 600 21 1).1 600 21 = 0 := by rw [rd_same]; decide
    rw [if_neg q', if_neg q', if_neg q', if_pos h2, if_neg w1, if_neg w1, if_neg w1]
    obtain ⟨a1, g1, m1⟩ := g.adv1
    obtain ⟨y1, y2, y3⟩ := r611_25 g1 (dd.fv m1) hI h2 6
    exact ⟨⟨a1, y1⟩, y2, (m1.mono qVR).tr y3⟩
  · have w0 : (wi M 600 21 0).1 600 21 = 0 := rd_same ..
    rw [if_pos (q.mpr h2), if_pos (q.mpr h2), if_pos (q.mpr h2), if_neg h2, if_pos w0, if_pos w0, if_pos w0]
    obtain ⟨f1, f2⟩ := g.fl
    obtain ⟨y1, y2, y3, y4⟩ := f611_25 f1 (iI (T 0 1)) 6 9
    obtain ⟨z1, z2⟩ := W611_f (c := iI (T 0 1)) y3 y2
    exact ⟨y1, z1, ((f2.tr y4).mono qVR).tr z2⟩
def RCl (M : Mm) : Prop := ∀ k, k < 4 → M.1 605 k = iI (lwl k) ∧ M.1 606 k = iI (lwm k)
theorem RCl.fq {Q : Nat → Nat → Prop} (h : RCl M) (F : Fq Q M M') (hq : ∀ a k, a = 605 ∨ a = 606 → ¬ Q a k) : RCl M' := fun k hk => ⟨by rw [F.1 _ _ (hq _ _ (Or.inl rfl))]; exact (h k hk).1, by rw [F.1 _ _ (hq _ _ (Or.inr rfl))]; exact (h k hk).2⟩
theorem RCl.fr (h : RCl M) (F : Fq qR M M') : RCl M' := h.fq F (fun a k u => by show ¬ (_ ∨ _); omega)
theorem RDr.law (dd : RDr M T S) {k : Nat} (hk : k < 4) {v : Int} : RDr (wi M 613 k (iI v)) (tU T 3 k v) S := by
  obtain ⟨⟨c0, c1, c2⟩, c3, c4, c5, c6⟩ := dd
  have e : ∀ i j, i ≠ 3 → tU T 3 k v i j = T i j := fun i j q => tU_n (Or.inl q)
  refine ⟨⟨?_, ?_, ?_⟩, fun x h0 hx => ?_, fun x h0 hx => ?_, fun j hj => ?_, fun w g hw hg => ?_⟩
  · rw [e 0 _ (by omega), rd_ne (Or.inl (by omega))]; exact c0
  · rw [e 0 _ (by omega), rd_ne (Or.inl (by omega))]; exact c1
  · rw [e 0 _ (by omega), rd_ne (Or.inl (by omega))]; exact c2
  · rw [e 0 _ (by omega)] at hx
    rw [e _ _ (by omega), rd_ne (Or.inl (by omega)), rd_ne (Or.inl (by omega))]; exact c3 x h0 hx
  · rw [e 0 _ (by omega)] at hx
    rw [e _ _ (by omega), rd_ne (Or.inl (by omega)), rd_ne (Or.inl (by omega))]; exact c4 x h0 hx
  · by_cases q : j = k
    · rw [q, rd_same, tU_s]
    · rw [rd_ne (Or.inr q), tU_n (Or.inr q)]; exact c5 j hj
  · rw [e 0 _ (by omega)] at hw
    rw [e _ _ (by omega), rd_ne (Or.inl (by omega))]; exact c6 w g hw hg
theorem r_53 (a1 : Int32) (h : RRs M b tl r) : p_X8_wantLaw_53 M a1 ∧ RRs (w_X8_wantLaw_53 M a1) b tl (aEn b tl r) ∧ Fq qR M (w_X8_wantLaw_53 M a1) := by
  unfold p_X8_wantLaw_53 w_X8_wantLaw_53
  cases r with
  | inl p =>
    have g : RF M p := h
    obtain ⟨n1, n2, n3⟩ := g.wend
    exact ⟨⟨n1, trivial⟩, n2, n3.mono qVR⟩
  | inr q =>
    obtain ⟨e, T, S⟩ := q
    obtain ⟨g, dd⟩ : RG M b tl e ∧ RDr M T S := h
    obtain ⟨n1, n2, n3, n4⟩ := g.wend
    show _ ∧ RRs _ b tl (if isE b tl e then .inr (tkE b tl e, T, S) else .inl (tkS b tl e)) ∧ _
    by_cases c : isE b tl e
    · rw [if_pos c]
      exact ⟨⟨n1, trivial⟩, ⟨n2 c, dd.fv n4⟩, n4.mono qVR⟩
    · rw [if_neg c]
      exact ⟨⟨n1, trivial⟩, n3 c, n4.mono qVR⟩
/-- one law's number, and its place -/
theorem r_num1 {k : Nat} (hk : k < 4) (hC : RCl M) (g : RG M b tl e) (dd : RDr M T S) : p_X8_wantNumber M (M.1 605 k) (M.1 606 k) ∧ RRs (wi (w_X8_wantNumber M (M.1 605 k) (M.1 606 k)) 613 k (r_X8_wantNumber M (M.1 605 k) (M.1 606 k))) b tl (ALw b tl T S k e) ∧ Fq qR M (wi (w_X8_wantNumber M (M.1 605 k) (M.1 606 k)) 613 k (r_X8_wantNumber M (M.1 605 k) (M.1 606 k))) := by
  obtain ⟨b1, b2⟩ := lwb k hk
  obtain ⟨l1, l2⟩ := hC k hk
  rw [l1, l2]
  obtain ⟨n1, n2, n3, n4, n5⟩ := g.num (lo := lwl k) (hi := lwm k) b1 b2
  have d1 := dd.fv n5
  rw [n2]
  unfold ALw
  generalize w_X8_wantNumber M (iI (lwl k)) (iI (lwm k)) = M1 at n3 n4 n5 d1 ⊢
  have F : Fq qR M (wi M1 613 k (iI (tkV b tl e))) := (n5.mono qVR).wi (by show _ ∨ _; omega)
  by_cases c : numOk b tl e (lwl k) (lwm k)
  · rw [aN_t c]
    exact ⟨n1, ⟨(n3 c).of (fun a j u => rd_ne (Or.inl (by omega))) rfl, d1.law hk⟩, F⟩
  · rw [aN_f c]
    exact ⟨n1, (n4 c).of (fun j u v => rd_ne (Or.inl (by omega))), F⟩
theorem r_law1 {k : Nat} (hk : k < 4) (hk1 : k ≠ 1) {a1 : Int32} (ha : a1 = iI (k : Int)) (hC : RCl M) (g : RG M b tl e) (dd : RDr M T S) : p_X8_wantLaw M a1 ∧ RRs (w_X8_wantLaw M a1) b tl (aEn b tl (ALw b tl T S k (tkE b tl e))) ∧ Fq qR M (w_X8_wantLaw M a1) := by
  have nn : Int32.toNatClampNeg (iI (k : Int)) = k := natk rfl (by omega)
  have v4 : vp_in (iI (k : Int)) 4 := vin_iI (by omega) (by omega) (by omega)
  have k1 : ¬ iI (k : Int) = (1 : Int32) := by rw [cl1, iI_eq (by omega) (by omega) (by omega) (by omega)]; omega
  obtain ⟨a2, g1, m1⟩ := g.adv0
  have d1 := dd.fv m1
  have C1 : RCl (w_X8_advance M) := hC.fr (m1.mono qVR)
  unfold p_X8_wantLaw w_X8_wantLaw p_X8_wantLaw_4 w_X8_wantLaw_4 p_X8_wantLaw_26 w_X8_wantLaw_26
  rw [ha, nn, if_pos k1, if_pos k1]
  generalize w_X8_advance M = M1 at g1 m1 d1 C1 ⊢
  obtain ⟨y1, y2, y3⟩ := r_num1 hk C1 g1 d1
  obtain ⟨z1, z2, z3⟩ := r_53 (iI (k : Int)) y2
  exact ⟨⟨a2, v4, v4, y1, v4, z1⟩, z2, ((m1.mono qVR).tr y3).tr z3⟩
theorem r_lawc (hC : RCl M) (g : RG M b tl e) (dd : RDr M T S) : p_X8_wantLaw M 1 ∧ RRs (w_X8_wantLaw M 1) b tl (aEn b tl (ALc b tl T S (tkE b tl e))) ∧ Fq qR M (w_X8_wantLaw M 1) := by
  have nn : Int32.toNatClampNeg (1 : Int32) = 1 := by decide
  have v4 : vp_in (1 : Int32) 4 := by rw [cl1]; exact vin_iI (by omega) (by omega) (by omega)
  have k1 : ¬ ¬ (1 : Int32) = 1 := by decide
  obtain ⟨a2, g1, m1⟩ := g.adv0
  have d1 := dd.fv m1
  have C1 : RCl (w_X8_advance M) := hC.fr (m1.mono qVR)
  unfold p_X8_wantLaw w_X8_wantLaw p_X8_wantLaw_4 w_X8_wantLaw_4 p_X8_wantLaw_26 w_X8_wantLaw_26
  rw [nn, if_neg k1, if_neg k1]
  generalize w_X8_advance M = M1 at g1 m1 d1 C1 ⊢
  obtain ⟨y1, y2, y3⟩ := r_num1 (k := 1) (by omega) C1 g1 d1
  have C2 := C1.fr y3
  generalize wi (w_X8_wantNumber M1 (M1.1 605 1) (M1.1 606 1)) 613 1 (r_X8_wantNumber M1 (M1.1 605 1) (M1.1 606 1)) = M2 at y2 y3 C2 ⊢
  unfold ALw at y2
  unfold ALc
  by_cases c : numOk b tl (tkE b tl e) 0 8
  · rw [aN_t (lo := lwl 1) (hi := lwm 1) c] at y2
    rw [aN_t c]
    obtain ⟨g2, d2⟩ := y2
    obtain ⟨x1, x2, x3⟩ := r_num1 (k := 2) (by omega) C2 g2 d2
    obtain ⟨z1, z2, z3⟩ := r_53 1 x2
    exact ⟨⟨a2, v4, v4, y1, v4, x1, z1⟩, z2, (((m1.mono qVR).tr y3).tr x3).tr z3⟩
  · rw [aN_f (lo := lwl 1) (hi := lwm 1) c] at y2
    rw [aN_f c]
    have g2 : RF M2 (tkS b tl (tkE b tl e)) := y2
    obtain ⟨x1, x2, x3⟩ := g2.num (M2.1 605 2) (M2.1 606 2)
    have g3 : RF (wi (w_X8_wantNumber M2 (M2.1 605 2) (M2.1 606 2)) 613 2 (r_X8_wantNumber M2 (M2.1 605 2) (M2.1 606 2))) (tkS b tl (tkE b tl e)) := x2.of (fun j u v => rd_ne (Or.inl (by omega)))
    have F3 : Fq qR M2 (wi (w_X8_wantNumber M2 (M2.1 605 2) (M2.1 606 2)) 613 2 (r_X8_wantNumber M2 (M2.1 605 2) (M2.1 606 2))) := (x3.mono qVR).wi (by show _ ∨ _; omega)
    obtain ⟨z1, z2, z3⟩ := r_53 (b := b) (tl := tl) (r := .inl (tkS b tl (tkE b tl e))) 1 g3
    exact ⟨⟨a2, v4, v4, y1, v4, x1, z1⟩, z2, (((m1.mono qVR).tr y3).tr F3).tr z3⟩
theorem rx_kind (g : RG M b tl e) : r_X8_kindHere M = iI (aKd b tl e) := by
  have w0 := g.isw (w := 464141) (u := 464141) (by omega) (by decide)
  have w1 := g.isw (w := 4351291) (u := 4351291) (by omega) (by decide)
  have w2 := g.isw (w := 60284) (u := 60284) (by omega) (by decide)
  have w3 := g.isw (w := 383153) (u := 383153) (by omega) (by decide)
  have w4 := g.isw (w := 9454493) (u := 9454493) (by omega) (by decide)
  have w5 := g.isw (w := 11570) (u := 11570) (by omega) (by decide)
  unfold r_X8_kindHere aKd
  by_cases c0 : isW b tl e 464141
  · have q : ¬ b2i (M.1 600 16 = 1 ∧ M.2 600 19 = 464141) = 0 := fun u => w0.mp u c0
    rw [if_neg q, if_pos c0]
    decide
  · have q := w0.mpr c0
    rw [if_pos q, if_neg c0]
    by_cases c1 : isW b tl e 4351291
    · have q : ¬ b2i (M.1 600 16 = 1 ∧ M.2 600 19 = 4351291) = 0 := fun u => w1.mp u c1
      rw [if_neg q, if_pos c1]
      decide
    · have q := w1.mpr c1
      rw [if_pos q, if_neg c1]
      by_cases c2 : isW b tl e 60284
      · have q : ¬ b2i (M.1 600 16 = 1 ∧ M.2 600 19 = 60284) = 0 := fun u => w2.mp u c2
        rw [if_neg q, if_pos c2]
        decide
      · have q := w2.mpr c2
        rw [if_pos q, if_neg c2]
        by_cases c3 : isW b tl e 383153
        · have q : ¬ b2i (M.1 600 16 = 1 ∧ M.2 600 19 = 383153) = 0 := fun u => w3.mp u c3
          rw [if_neg q, if_pos c3]
          decide
        · have q := w3.mpr c3
          rw [if_pos q, if_neg c3]
          by_cases c4 : isW b tl e 9454493
          · have q : ¬ b2i (M.1 600 16 = 1 ∧ M.2 600 19 = 9454493) = 0 := fun u => w4.mp u c4
            rw [if_neg q, if_pos c4]
            decide
          · have q := w4.mpr c4
            rw [if_pos q, if_neg c4]
            by_cases c5 : isW b tl e 11570
            · have q : ¬ b2i (M.1 600 16 = 1 ∧ M.2 600 19 = 11570) = 0 := fun u => w5.mp u c5
              rw [if_neg q, if_pos c5]
              decide
            · have q := w5.mpr c5
              rw [if_pos q, if_neg c5]
              decide
theorem aKd_w {w : Int} (h : isW b tl e w) (hw : w ≠ 464141 ∧ w ≠ 4351291 ∧ w ≠ 60284 ∧ w ≠ 383153 ∧ w ≠ 9454493 ∧ w ≠ 11570) : aKd b tl e = -1 := by
  obtain ⟨-, h2⟩ := h
  unfold aKd isW
  rw [h2]
  rw [if_neg (fun u => hw.1 u.2), if_neg (fun u => hw.2.1 u.2), if_neg (fun u => hw.2.2.1 u.2), if_neg (fun u => hw.2.2.2.1 u.2), if_neg (fun u => hw.2.2.2.2.1 u.2), if_neg (fun u => hw.2.2.2.2.2 u.2)]
theorem r_sent (g : RG M b tl e) (dd : RDr M T S) (hv : Iv T S) (hC : RCl M) : p_X8_wantClause M ∧ RRs (w_X8_wantClause M) b tl (aEn b tl (ACl b tl T S e)) ∧ Fq qR M (w_X8_wantClause M) := by
  have kb := aKd_b b tl e
  have kq : (iI (aKd b tl e) < (0 : Int32)) ↔ aKd b tl e < 0 := by rw [cl0, iI_lt (by omega) (by omega) (by omega) (by omega)]
  have w0 := g.isw (w := 7220169) (u := 7220169) (by omega) (by decide)
  have w1 := g.isw (w := 10793230) (u := 10793230) (by omega) (by decide)
  have w2 := g.isw (w := 12257559) (u := 12257559) (by omega) (by decide)
  have w3 := g.isw (w := 60114) (u := 60114) (by omega) (by decide)
  have w4 := g.isw (w := 43347) (u := 43347) (by omega) (by decide)
  unfold p_X8_wantClause w_X8_wantClause ACl
  rw [rx_kind g]
  by_cases c0 : isW b tl e 7220169
  · have q0 : ¬ b2i (M.1 600 16 = 1 ∧ M.2 600 19 = 7220169) = 0 := fun u => w0.mp u c0
    have k := aKd_w c0 (by omega)
    rw [if_neg q0, if_neg q0, k, if_neg (show ¬ (0 : Int) ≤ -1 by omega), if_pos c0]
    obtain ⟨y1, y2, y3⟩ := r_one610 g dd hv.1
    exact ⟨⟨y1, by split <;> trivial⟩, y2, y3⟩
  · have q0 := w0.mpr c0
    rw [if_pos q0, if_pos q0]
    by_cases c1 : isW b tl e 10793230
    · have q1 : ¬ b2i (M.1 600 16 = 1 ∧ M.2 600 19 = 10793230) = 0 := fun u => w1.mp u c1
      have k := aKd_w c1 (by omega)
      rw [if_neg q1, if_neg q1, k, if_neg (show ¬ (0 : Int) ≤ -1 by omega), if_neg c0, if_pos c1]
      obtain ⟨y1, y2, y3⟩ := r_one611 g dd hv.1
      exact ⟨⟨y1, by split <;> trivial⟩, y2, y3⟩
    · have q1 := w1.mpr c1
      rw [if_pos q1, if_pos q1]
      by_cases c : 0 ≤ aKd b tl e
      · have q : ¬ iI (aKd b tl e) < (0 : Int32) := fun u => by have := kq.mp u; omega
        rw [if_neg q, if_neg q, if_pos c]
        obtain ⟨y1, y2, y3⟩ := r_work (k := aKd b tl e) g dd hv.1
        exact ⟨⟨y1, trivial⟩, y2, y3⟩
      · have q := kq.mpr (show aKd b tl e < 0 by omega)
        rw [if_pos q, if_pos q, if_neg c, if_neg c0, if_neg c1]
        by_cases c2 : isW b tl e 12257559
        · have q2 : ¬ b2i (M.1 600 16 = 1 ∧ M.2 600 19 = 12257559) = 0 := fun u => w2.mp u c2
          rw [if_neg q2, if_neg q2, if_pos c2]
          obtain ⟨y1, y2, y3⟩ := r_law1 (k := 0) (a1 := 0) (by omega) (by omega) (by decide) hC g dd
          exact ⟨⟨y1, trivial⟩, y2, y3⟩
        · have q2 := w2.mpr c2
          rw [if_pos q2, if_pos q2, if_neg c2]
          by_cases c3 : isW b tl e 60114
          · have q3 : ¬ b2i (M.1 600 16 = 1 ∧ M.2 600 19 = 60114) = 0 := fun u => w3.mp u c3
            rw [if_neg q3, if_neg q3, if_pos c3]
            obtain ⟨y1, y2, y3⟩ := r_lawc hC g dd
            exact ⟨⟨y1, trivial⟩, y2, y3⟩
          · have q3 := w3.mpr c3
            rw [if_pos q3, if_pos q3, if_neg c3]
            by_cases c4 : isW b tl e 43347
            · have q4 : ¬ b2i (M.1 600 16 = 1 ∧ M.2 600 19 = 43347) = 0 := fun u => w4.mp u c4
              rw [if_neg q4, if_neg q4, if_pos c4]
              obtain ⟨y1, y2, y3⟩ := r_law1 (k := 3) (a1 := 3) (by omega) (by omega) (by decide) hC g dd
              exact ⟨⟨y1, trivial⟩, y2, y3⟩
            · have q4 := w4.mpr c4
              rw [if_pos q4, if_pos q4, if_neg c4]
              exact ⟨trivial, g.fl.1, g.fl.2.mono qVR⟩
end PA8
