/-! a text read, as numbers -/
abbrev Rr : Type := Nat ⊕ (Nat × Tw × Tw)
def aN (b : Nat → Int) (tl : Nat) (lo hi : Int) (e : Nat) (K : Int → Nat → Rr) : Rr := if tkK b tl e = 2 ∧ lo ≤ tkV b tl e ∧ tkV b tl e ≤ hi then K (tkV b tl e) (tkE b tl e) else Sum.inl (tkS b tl e)
def aW (b : Nat → Int) (tl : Nat) (w : Int) (e : Nat) (K : Nat → Rr) : Rr := if isW b tl e w then K (tkE b tl e) else Sum.inl (tkS b tl e)
def aEn (b : Nat → Int) (tl : Nat) : Rr → Rr
  | .inl p => .inl p
  | .inr (e, T, S) => if isE b tl e then .inr (tkE b tl e, T, S) else .inl (tkS b tl e)
def vV (v0 v1 v2 v3 v4 v5 v6 v7 : Int) : Nat → Int := fun f => if f = 7 then v7 else if f = 6 then v6 else if f = 5 then v5 else if f = 4 then v4 else if f = 3 then v3 else if f = 2 then v2 else if f = 1 then v1 else v0
def A165 (b : Nat → Int) (tl : Nat) (T S : Tw) (k m t o d w h : Int) (e : Nat) : Rr := aN b tl 1 99 e fun x e => .inr (e, tW T (vV k m t o d w h x), sW T S)
def A145 (b : Nat → Int) (tl : Nat) (T S : Tw) (k m t o d w h : Int) (e : Nat) : Rr := if isW b tl e 335207579 then A165 b tl T S k m t o d w h (tkE b tl e) else .inr (e, tW T (vV k m t o d w h 0), sW T S)
def A126 (b : Nat → Int) (tl : Nat) (T S : Tw) (k m t o d w : Int) (e : Nat) : Rr := aN b tl 0 (T 0 2 - 1) e fun h e => A145 b tl T S k m t o d w h e
def A113 (b : Nat → Int) (tl : Nat) (T S : Tw) (k m t o d w : Int) (e : Nat) : Rr := if isW b tl e 31519426 then A126 b tl T S k m t o d w (tkE b tl e) else .inr (e, tW T (vV k m t o d w (-1) 0), sW T S)
def A80 (b : Nat → Int) (tl : Nat) (T S : Tw) (k m t o d : Int) (e : Nat) : Rr := aN b tl 0 99 e fun w e => A113 b tl T S k m t o d w e
def A74 (b : Nat → Int) (tl : Nat) (T S : Tw) (k m t o d : Int) (e : Nat) : Rr := aW b tl 4797 e fun e => A80 b tl T S k m t o d e
def A64 (b : Nat → Int) (tl : Nat) (T S : Tw) (k m t o : Int) (e : Nat) : Rr := aN b tl 0 999 e fun d e => A74 b tl T S k m t o d e
def A58 (b : Nat → Int) (tl : Nat) (T S : Tw) (k m t o : Int) (e : Nat) : Rr := aW b tl 79 e fun e => A64 b tl T S k m t o e
def A49 (b : Nat → Int) (tl : Nat) (T S : Tw) (k m t : Int) (e : Nat) : Rr := aN b tl 0 9 e fun o e => A58 b tl T S k m t o e
def A43 (b : Nat → Int) (tl : Nat) (T S : Tw) (k m t : Int) (e : Nat) : Rr := aW b tl 555 e fun e => A49 b tl T S k m t e
def A30 (b : Nat → Int) (tl : Nat) (T S : Tw) (k m : Int) (e : Nat) : Rr := aN b tl 0 (T 0 1 - 1) e fun t e => A43 b tl T S k m t e
def A18 (b : Nat → Int) (tl : Nat) (T S : Tw) (k : Int) (e : Nat) : Rr := aN b tl 0 (T 0 0 - 1) e fun m e => A30 b tl T S k m e
def AWk (b : Nat → Int) (tl : Nat) (T S : Tw) (k : Int) (e : Nat) : Rr := if T 0 2 < 6 then A18 b tl T S k (tkE b tl e) else .inl (tkS b tl e)
def AMv (b : Nat → Int) (tl : Nat) (T S : Tw) (e : Nat) : Rr := if T 0 0 < 3 then (aN b tl 0 9 (tkE b tl e) fun x e => aN b tl 1 5 e fun y e => .inr (e, tU (tU T 1 (T 0 0).toNat y) 0 0 (T 0 0 + 1), tU S 0 (T 0 0).toNat x)) else .inl (tkS b tl e)
def ATh (b : Nat → Int) (tl : Nat) (T S : Tw) (e : Nat) : Rr := if T 0 1 < 6 then (aN b tl 0 9 (tkE b tl e) fun x e => aN b tl 1 9 e fun y e => .inr (e, tU (tU T 2 (T 0 1).toNat y) 0 1 (T 0 1 + 1), tU S 1 (T 0 1).toNat x)) else .inl (tkS b tl e)
def lwl (k : Nat) : Int := if k ≤ 1 then 0 else 1
def lwm (k : Nat) : Int := if k = 0 then 9 else if k = 1 then 8 else if k = 2 then 30 else 20
def ALw (b : Nat → Int) (tl : Nat) (T S : Tw) (k : Nat) (e : Nat) : Rr := aN b tl (lwl k) (lwm k) e fun v e => .inr (e, tU T 3 k v, S)
def ALc (b : Nat → Int) (tl : Nat) (T S : Tw) (e : Nat) : Rr := aN b tl 0 8 e fun v e => ALw b tl (tU T 3 1 v) S 2 e
def aKd (b : Nat → Int) (tl e : Nat) : Int := if isW b tl e 464141 then 0 else if isW b tl e 4351291 then 1 else if isW b tl e 60284 then 2 else if isW b tl e 383153 then 3 else if isW b tl e 9454493 then 4 else if isW b tl e 11570 then 5 else -1
/-- a sentence, less its end -/
def ACl (b : Nat → Int) (tl : Nat) (T S : Tw) (e : Nat) : Rr :=
  if 0 ≤ aKd b tl e then AWk b tl T S (aKd b tl e) e else if isW b tl e 7220169 then AMv b tl T S e else if isW b tl e 10793230 then ATh b tl T S e
  else if isW b tl e 12257559 then ALw b tl T S 0 (tkE b tl e) else if isW b tl e 60114 then ALc b tl T S (tkE b tl e) else if isW b tl e 43347 then ALw b tl T S 3 (tkE b tl e) else .inl (tkS b tl e)
def aRd (b : Nat → Int) (tl : Nat) : Rr → Rr
  | .inl p => .inl p
  | .inr (e, T, S) => if tkK b tl e = 0 then .inr (e, T, S) else aEn b tl (ACl b tl T S e)
section PA4
variable {b : Nat → Int} {tl e : Nat} {lo hi w : Int} {K : Int → Nat → Rr} {L : Nat → Rr} {T S : Tw}
theorem aN_t (h : numOk b tl e lo hi) : aN b tl lo hi e K = K (tkV b tl e) (tkE b tl e) := if_pos h
theorem aN_f (h : ¬ numOk b tl e lo hi) : aN b tl lo hi e K = Sum.inl (tkS b tl e) := if_neg h
theorem aW_t (h : isW b tl e w) : aW b tl w e L = L (tkE b tl e) := if_pos h
theorem aW_f (h : ¬ isW b tl e w) : aW b tl w e L = Sum.inl (tkS b tl e) := if_neg h
/-- what holds of all that is read -/
def Iv (T S : Tw) : Prop := InvT T ∧ InvS T S 0 ∧ (∀ x : Int, 0 ≤ x → x < T 0 2 → S 2 x.toNat = 0 ∧ S 3 x.toNat = 0) ∧ S 4 0 = 0
def Gd (T0 : Tw) (tl e0 : Nat) : Rr → Prop
  | .inl p => p ≤ tl
  | .inr (e, T, S) => e0 ≤ e ∧ e ≤ tl ∧ Iv T S ∧ (T 0 3 = T0 0 3 ∧ (∀ k, T 4 k = T0 4 k) ∧ ∀ k, T 5 k = T0 5 k)
theorem Gd.mono {T0 : Tw} {r : Rr} {e0 e1 : Nat} (h : Gd T0 tl e1 r) (he : e0 ≤ e1) : Gd T0 tl e0 r := by
  cases r with
  | inl p => exact h
  | inr q => exact ⟨Nat.le_trans he h.1, h.2⟩
theorem tk_st (b : Nat → Int) {tl e : Nat} (he : e ≤ tl) : e ≤ tkS b tl e ∧ tkS b tl e ≤ tl ∧ tkS b tl e ≤ tkE b tl e ∧ tkE b tl e ≤ tl ∧ (tkK b tl e ≠ 0 → tkS b tl e < tkE b tl e) := by
  obtain ⟨q1, q2, q3, q4, q5⟩ := tkE_s b he
  obtain ⟨s1, s2, -, -⟩ := rn_s (fun i => b i = 32) tl tl e he (by omega)
  change e ≤ tkS b tl e at s1
  change tkS b tl e ≤ tl at s2
  refine ⟨s1, s2, q1, q2, fun h => ?_⟩
  unfold tkK at h
  by_cases c : tkS b tl e < tl
  · by_cases d : tkK b tl e = 3
    · have := (q4 d).1
      omega
    · have e1 : tkE b tl e = rn (fun i => kd (b i) = tkK b tl e) tl tl (tkS b tl e + 1) := by
        unfold tkE
        rw [if_pos c, if_neg d]
      obtain ⟨r1, -⟩ := rn_s (fun i => kd (b i) = tkK b tl e) tl tl (tkS b tl e + 1) (by omega) (by omega)
      omega
  · rw [if_neg c] at h
    exact absurd rfl h
theorem gd_n {T0 : Tw} {e0 : Nat} (he : e ≤ tl) (h0 : e0 ≤ tkE b tl e) (h : numOk b tl e lo hi → Gd T0 tl (tkE b tl e) (K (tkV b tl e) (tkE b tl e))) : Gd T0 tl e0 (aN b tl lo hi e K) := by
  by_cases c : numOk b tl e lo hi
  · rw [aN_t c]
    exact (h c).mono h0
  · rw [aN_f c]
    exact (tk_st b he).2.1
theorem gd_w {T0 : Tw} {e0 : Nat} (he : e ≤ tl) (h0 : e0 ≤ tkE b tl e) (h : Gd T0 tl (tkE b tl e) (L (tkE b tl e))) : Gd T0 tl e0 (aW b tl w e L) := by
  by_cases c : isW b tl e w
  · rw [aW_t c]
    exact h.mono h0
  · rw [aW_f c]
    exact (tk_st b he).2.1
theorem Gd.en {T0 : Tw} {e0 : Nat} {r : Rr} (h : Gd T0 tl e0 r) : Gd T0 tl e0 (aEn b tl r) := by
  cases r with
  | inl p => exact h
  | inr q =>
    obtain ⟨e, T, S⟩ := q
    obtain ⟨h1, h2, h3⟩ := h
    have t := tk_st b h2
    show Gd T0 tl e0 (if isE b tl e then .inr (tkE b tl e, T, S) else .inl (tkS b tl e))
    split
    · exact ⟨by omega, t.2.2.2.1, h3⟩
    · exact t.2.1
theorem gd_wk {T0 : Tw} {k m t o d w h x : Int} (hv : Iv T S) (hT : T 0 3 = T0 0 3 ∧ (∀ k, T 4 k = T0 4 k) ∧ ∀ k, T 5 k = T0 5 k) (h2 : T 0 2 < 6) (hk : 0 ≤ k ∧ k ≤ 5) (hm : 0 ≤ m ∧ m < T 0 0) (ht : 0 ≤ t ∧ t < T 0 1) (ho : 0 ≤ o ∧ o ≤ 9) (hd : 0 ≤ d ∧ d ≤ 999) (hw : 0 ≤ w ∧ w ≤ 99) (hh : -1 ≤ h ∧ h < T 0 2) (hx : 0 ≤ x ∧ x ≤ 99) (he : e ≤ tl) : Gd T0 tl e (.inr (e, tW T (vV k m t o d w h x), sW T S)) := by
  obtain ⟨i1, i2, i3, i4⟩ := hv
  have c := i1.1
  refine ⟨Nat.le_refl _, he, ⟨i1.addW h2 ⟨hk, hm, ht, ho, hd, hw, hh, hx⟩, InvS.addW i1 i2, fun y y0 y1 => ?_, by rw [sW_o (by omega)]; exact i4⟩, by rw [tW_o (by omega) (by omega)]; exact hT.1, fun j => by rw [tW_o (by omega) (by omega)]; exact hT.2.1 j, fun j => by rw [tW_o (by omega) (by omega)]; exact hT.2.2 j⟩
  rw [tW_0] at y1
  by_cases q : y.toNat = (T 0 2).toNat
  · rw [q, sW_w (by omega), sW_w (by omega)]; exact ⟨rfl, rfl⟩
  · rw [sW_o (by omega), sW_o (by omega)]; exact i3 y y0 (by omega)
theorem gd_AWk {T0 : Tw} {k : Int} (hv : Iv T S) (hT : T 0 3 = T0 0 3 ∧ (∀ k, T 4 k = T0 4 k) ∧ ∀ k, T 5 k = T0 5 k) (hk : 0 ≤ k ∧ k ≤ 5) (he : e ≤ tl) : Gd T0 tl (tkE b tl e) (AWk b tl T S k e) := by
  have c := hv.1.1
  unfold AWk
  by_cases h2 : T 0 2 < 6
  · rw [if_pos h2]
    have y0 := (tk_st b he).2.2.2.1
    generalize tkE b tl e = e0 at y0 ⊢
    have s0 := tk_st b y0
    refine gd_n y0 (by omega) (fun n0 => ?_)
    generalize tkE b tl e0 = e1 at s0 ⊢
    have s1 := tk_st b s0.2.2.2.1
    refine gd_n s0.2.2.2.1 (by omega) (fun n1 => ?_)
    generalize tkE b tl e1 = e2 at s1 ⊢
    have s2 := tk_st b s1.2.2.2.1
    refine gd_w s1.2.2.2.1 (by omega) ?_
    generalize tkE b tl e2 = e3 at s2 ⊢
    have s3 := tk_st b s2.2.2.2.1
    refine gd_n s2.2.2.2.1 (by omega) (fun n3 => ?_)
    generalize tkE b tl e3 = e4 at s3 ⊢
    have s4 := tk_st b s3.2.2.2.1
    refine gd_w s3.2.2.2.1 (by omega) ?_
    generalize tkE b tl e4 = e5 at s4 ⊢
    have s5 := tk_st b s4.2.2.2.1
    refine gd_n s4.2.2.2.1 (by omega) (fun n5 => ?_)
    generalize tkE b tl e5 = e6 at s5 ⊢
    have s6 := tk_st b s5.2.2.2.1
    refine gd_w s5.2.2.2.1 (by omega) ?_
    generalize tkE b tl e6 = e7 at s6 ⊢
    have s7 := tk_st b s6.2.2.2.1
    refine gd_n s6.2.2.2.1 (by omega) (fun n7 => ?_)
    generalize tkE b tl e7 = e8 at s7 ⊢
    have s8 := tk_st b s7.2.2.2.1
    obtain ⟨-, a0⟩ := n0
    obtain ⟨-, a1⟩ := n1
    obtain ⟨-, a3⟩ := n3
    obtain ⟨-, a5⟩ := n5
    obtain ⟨-, a7⟩ := n7
    unfold A113
    by_cases c8 : isW b tl e8 31519426
    · rw [if_pos c8]
      refine Gd.mono (e1 := tkE b tl e8) ?_ (by omega)
      generalize tkE b tl e8 = e9 at s8 ⊢
      have s9 := tk_st b s8.2.2.2.1
      refine gd_n s8.2.2.2.1 (by omega) (fun n9 => ?_)
      generalize tkE b tl e9 = f0 at s9 ⊢
      have t0 := tk_st b s9.2.2.2.1
      obtain ⟨-, a9⟩ := n9
      unfold A145
      by_cases c0 : isW b tl f0 335207579
      · rw [if_pos c0]
        refine Gd.mono (e1 := tkE b tl f0) ?_ (by omega)
        generalize tkE b tl f0 = f1 at t0 ⊢
        have t1 := tk_st b t0.2.2.2.1
        refine gd_n t0.2.2.2.1 (by omega) (fun n1 => ?_)
        obtain ⟨-, b1⟩ := n1
        exact gd_wk hv hT h2 hk (by omega) (by omega) a3 a5 a7 (by omega) (by omega) t1.2.2.2.1
      · rw [if_neg c0]
        exact gd_wk hv hT h2 hk (by omega) (by omega) a3 a5 a7 (by omega) (by omega) s9.2.2.2.1
    · rw [if_neg c8]
      exact gd_wk hv hT h2 hk (by omega) (by omega) a3 a5 a7 (by omega) (by omega) s7.2.2.2.1
  · rw [if_neg h2]
    exact (tk_st b he).2.1
theorem gd_AMv {T0 : Tw} (hv : Iv T S) (hT : T 0 3 = T0 0 3 ∧ (∀ k, T 4 k = T0 4 k) ∧ ∀ k, T 5 k = T0 5 k) (he : e ≤ tl) : Gd T0 tl (tkE b tl e) (AMv b tl T S e) := by
  unfold AMv
  by_cases h2 : T 0 0 < 3
  · rw [if_pos h2]
    have y0 := (tk_st b he).2.2.2.1
    generalize tkE b tl e = e0 at y0 ⊢
    have s0 := tk_st b y0
    refine gd_n y0 (by omega) (fun n0 => ?_)
    generalize tkE b tl e0 = e1 at s0 ⊢
    have s1 := tk_st b s0.2.2.2.1
    refine gd_n s0.2.2.2.1 (by omega) (fun n1 => ?_)
    obtain ⟨-, a0⟩ := n0
    obtain ⟨-, a1⟩ := n1
    obtain ⟨i1, i2, i3, i4⟩ := hv
    have c := i1.1
    refine ⟨Nat.le_refl _, s1.2.2.2.1, ⟨i1.addM h2 a1, InvS.addM i1 i2 a0, fun y y0 y1 => ?_, by rw [tU_n (by omega)]; exact i4⟩, by rw [tU_n (by omega), tU_n (by omega)]; exact hT.1, fun j => by rw [tU_n (by omega), tU_n (by omega)]; exact hT.2.1 j, fun j => by rw [tU_n (by omega), tU_n (by omega)]; exact hT.2.2 j⟩
    rw [tU_n (by omega), tU_n (by omega)] at y1
    rw [tU_n (by omega), tU_n (by omega)]; exact i3 y y0 y1
  · rw [if_neg h2]
    exact (tk_st b he).2.1
theorem gd_ATh {T0 : Tw} (hv : Iv T S) (hT : T 0 3 = T0 0 3 ∧ (∀ k, T 4 k = T0 4 k) ∧ ∀ k, T 5 k = T0 5 k) (he : e ≤ tl) : Gd T0 tl (tkE b tl e) (ATh b tl T S e) := by
  unfold ATh
  by_cases h2 : T 0 1 < 6
  · rw [if_pos h2]
    have y0 := (tk_st b he).2.2.2.1
    generalize tkE b tl e = e0 at y0 ⊢
    have s0 := tk_st b y0
    refine gd_n y0 (by omega) (fun n0 => ?_)
    generalize tkE b tl e0 = e1 at s0 ⊢
    have s1 := tk_st b s0.2.2.2.1
    refine gd_n s0.2.2.2.1 (by omega) (fun n1 => ?_)
    obtain ⟨-, a0⟩ := n0
    obtain ⟨-, a1⟩ := n1
    obtain ⟨i1, i2, i3, i4⟩ := hv
    have c := i1.1
    refine ⟨Nat.le_refl _, s1.2.2.2.1, ⟨i1.addT h2 a1, InvS.addT i1 i2 a0, fun y y0 y1 => ?_, by rw [tU_n (by omega)]; exact i4⟩, by rw [tU_n (by omega), tU_n (by omega)]; exact hT.1, fun j => by rw [tU_n (by omega), tU_n (by omega)]; exact hT.2.1 j, fun j => by rw [tU_n (by omega), tU_n (by omega)]; exact hT.2.2 j⟩
    rw [tU_n (by omega), tU_n (by omega)] at y1
    rw [tU_n (by omega), tU_n (by omega)]; exact i3 y y0 y1
  · rw [if_neg h2]
    exact (tk_st b he).2.1
theorem Iv.law {v : Int} (hv : Iv T S) {k : Nat} (hk : k < 4) (h : lwl k ≤ v ∧ v ≤ lwm k) : Iv (tU T 3 k v) S := by
  obtain ⟨⟨i0, i1, i2, i3, i5⟩, j, z, z4⟩ := hv
  have e : ∀ i j, i ≠ 3 → tU T 3 k v i j = T i j := fun i j q => tU_n (Or.inl q)
  refine ⟨⟨?_, ?_, ?_, ?_, fun w hw => ?_⟩, j.eq0 (fun k => e 0 k (by omega)), ?_, z4⟩
  · simp only [e 0 _ (show (0 : Nat) ≠ 3 by omega)]; exact i0
  · simp only [e 0 _ (show (0 : Nat) ≠ 3 by omega), e 1 _ (show (1 : Nat) ≠ 3 by omega)]; exact i1
  · simp only [e 0 _ (show (0 : Nat) ≠ 3 by omega), e 2 _ (show (2 : Nat) ≠ 3 by omega)]; exact i2
  · unfold lwl lwm at h
    have kk : k = 0 ∨ k = 1 ∨ k = 2 ∨ k = 3 := by omega
    rcases kk with rfl | rfl | rfl | rfl
    · rw [tU_s, tU_n (by omega), tU_n (by omega), tU_n (by omega)]; exact ⟨h, i3.2⟩
    · rw [tU_s, tU_n (by omega), tU_n (by omega), tU_n (by omega)]; exact ⟨i3.1, h, i3.2.2⟩
    · rw [tU_s, tU_n (by omega), tU_n (by omega), tU_n (by omega)]; exact ⟨i3.1, i3.2.1, h, i3.2.2.2⟩
    · rw [tU_s, tU_n (by omega), tU_n (by omega), tU_n (by omega)]; exact ⟨i3.1, i3.2.1, i3.2.2.1, h⟩
  · rw [e 0 _ (by omega)] at hw
    have := i5 w hw
    unfold WkI at this ⊢
    simp only [e 0 _ (show (0 : Nat) ≠ 3 by omega), e (10 + w) _ (show 10 + w ≠ 3 by omega)]
    exact this
  · simp only [e 0 _ (show (0 : Nat) ≠ 3 by omega)]; exact z
theorem gd_ALw {T0 : Tw} (hv : Iv T S) (hT : T 0 3 = T0 0 3 ∧ (∀ k, T 4 k = T0 4 k) ∧ ∀ k, T 5 k = T0 5 k) {k : Nat} (hk : k < 4) (he : e ≤ tl) : Gd T0 tl (tkE b tl e) (ALw b tl T S k e) := by
  refine gd_n he (Nat.le_refl _) (fun n0 => ?_)
  exact ⟨Nat.le_refl _, (tk_st b he).2.2.2.1, hv.law hk n0.2, by rw [tU_n (by omega)]; exact hT.1, fun j => by rw [tU_n (by omega)]; exact hT.2.1 j, fun j => by rw [tU_n (by omega)]; exact hT.2.2 j⟩
theorem gd_ALc {T0 : Tw} (hv : Iv T S) (hT : T 0 3 = T0 0 3 ∧ (∀ k, T 4 k = T0 4 k) ∧ ∀ k, T 5 k = T0 5 k) (he : e ≤ tl) : Gd T0 tl (tkE b tl e) (ALc b tl T S e) := by
  refine gd_n he (Nat.le_refl _) (fun n0 => ?_)
  have t := tk_st b he
  have t1 := tk_st b t.2.2.2.1
  refine (gd_ALw (hv.law (k := 1) (by omega) n0.2) ⟨by rw [tU_n (by omega)]; exact hT.1, fun j => by rw [tU_n (by omega)]; exact hT.2.1 j, fun j => by rw [tU_n (by omega)]; exact hT.2.2 j⟩ (k := 2) (by omega) t.2.2.2.1).mono (by omega)
theorem aKd_b (b : Nat → Int) (tl e : Nat) : -1 ≤ aKd b tl e ∧ aKd b tl e ≤ 5 := by
  unfold aKd
  split
  · omega
  split
  · omega
  split
  · omega
  split
  · omega
  split
  · omega
  split <;> omega
theorem gd_ACl {T0 : Tw} (hv : Iv T S) (hT : T 0 3 = T0 0 3 ∧ (∀ k, T 4 k = T0 4 k) ∧ ∀ k, T 5 k = T0 5 k) (he : e ≤ tl) : Gd T0 tl (tkE b tl e) (ACl b tl T S e) := by
  have t := tk_st b he
  have t1 := tk_st b t.2.2.2.1
  have kb := aKd_b b tl e
  unfold ACl
  split
  next h => exact gd_AWk hv hT ⟨h, kb.2⟩ he
  split
  · exact gd_AMv hv hT he
  split
  · exact gd_ATh hv hT he
  split
  · exact (gd_ALw hv hT (by omega) t.2.2.2.1).mono (by omega)
  split
  · exact (gd_ALc hv hT t.2.2.2.1).mono (by omega)
  split
  · exact (gd_ALw hv hT (by omega) t.2.2.2.1).mono (by omega)
  · exact t.2.1
end PA4
