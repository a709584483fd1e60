
theorem anyS_ex {sa : Nat → Nat} : ∀ n, anyS sa n = true → ∃ t, t < n ∧ 0 < sa t
  | 0, h => by cases h
  | n + 1, h => by
    by_cases c : 0 < sa n
    · exact ⟨n, by omega, c⟩
    · by_cases d : anyS sa n = true
      · obtain ⟨t, h1, h2⟩ := anyS_ex n d
        exact ⟨t, by omega, h2⟩
      · rw [anyS_f (by simpa using d) c] at h
        cases h
theorem dTl_rb {M : Nat → Nat → Nat} {t : Nat} {r : Nat → Nat} (h : M 12 t = 0) : dTl (va_up M 3 r) t = dTl M t := by
  funext i q
  match i with
  | 0 => rfl
  | 1 => rfl
  | 2 =>
    show M 12 t / r 1 = M 12 t / M 3 1
    rw [h, Nat.zero_div, Nat.zero_div]
  | 3 => rfl
  | 4 => rfl
  | 5 => rfl
  | 6 => rfl
  | 7 => rfl
  | 8 => rfl
  | 9 => rfl
  | k + 10 => rfl
theorem gnV_c {gp gt gp' gt' : Nat → Nat} {ra rb stp gd ru : Nat} (h1 : gp gd = gp' gd) (h2 : gt gd = gt' gd) : gnV gp gt ra rb stp gd ru = gnV gp' gt' ra rb stp gd ru := by
  unfold gnV
  rw [h1, h2]
theorem ldD_c {gn tn ra rb stp : Nat} {gp gt gp' gt' : Nat → Nat} {z : Int} (h1 : ∀ k, k < gn → gp k = gp' k) (h2 : ∀ k, k < gn → gt k = gt' k) : ldD gn tn ra rb stp gp gt z = ldD gn tn ra rb stp gp' gt' z := by
  have e : ldG gn gp gt z = ldG gn gp' gt' z := by
    unfold ldG
    by_cases c : 10 ≤ z ∧ z < 10 + (gn : Int)
    · rw [if_pos c, if_pos c, h1 _ (by omega)]
    · rw [if_neg c, if_neg c]
      by_cases d : 30 ≤ z ∧ z < 30 + (gn : Int)
      · rw [if_pos d, if_pos d, h2 _ (by omega)]
      · rw [if_neg d, if_neg d]
  unfold ldD
  rw [e]
set_option maxHeartbeats 4000000 in
theorem k_rate {l : Launch} {G : nG} {N : Nat} {ad : Nat → Nat} {x y c : Nat} {w : Nat → va_E} (hN : N = x + 246) (hy : y = x + 219) (hc : c ≤ 600) (hS : Sd G ad x y c w) (a1 : Int) (a2 : Int) (r_a1 : -2147483648 ≤ a1 ∧ a1 < 2147483648) (r_a2 : -2147483648 ≤ a2 ∧ a2 < 2147483648) : StpI l G N ad x y c w yX6_rate yX7_rate wsX6_rate wsX7_rate ({ frames := 1, cells := 0, slots := 0, locals := 22 }) ({ frames := 1, cells := 0, slots := 0, locals := 22 }) [.int (iI a1), .int (iI a2)] := by
  obtain ⟨M, kp, hC, hM, hk, hI⟩ := hS
  obtain ⟨i1, i2, i3, i4, i5, i6, i7, i8, i9, i10, i11⟩ := id hI
  obtain ⟨mCo, mVa, mRa, mSl, mGo, mPr, mTi, mSt, mTl, mTs, mEx, mHa⟩ := inv_mod hc hI
  obtain ⟨x0, hL, x2, x3, x4, x5, x6, x7⟩ := id hC
  obtain ⟨L0, L1, L2, L3, L4, L5⟩ := id hL
  have hT := tl_T L5
  have hsa := clip4_le hc hI
  by_cases hno : ¬ (1 ≤ a1 ∧ a1 ≤ 100) ∨ ¬ (1 ≤ a2 ∧ a2 ≤ 100) ∨ anyS (clip 4 (M 10)) (M 9 0) = true
  · refine stp_rd (bI False) hy hC hM hk hI (fun sz => c_X6_rate_no x (x + 1) (M 9 0) (M 3 0) (M 3 1) (M 8 0) (clip 4 (M 10)) (M 11) (fun t => M 12 t / M 3 1) a1 a2 (by omega) rfl i7 hT hsa r_a1 r_a2 hno x0 L0 L3) (fun u hu sz => c_X7_rate_no y (M 4) a1 a2 (by omega) mSl r_a1 r_a2 ?_ hu.1 hu.2.2.2.2.1) (fun u r v hu h => mod_eq hu ⟨h.1, h.2.trans (bI_f id).symm⟩)
    rcases hno with h | h | h
    · exact Or.inl h
    · exact Or.inr (Or.inl h)
    · obtain ⟨t, h1, h2⟩ := anyS_ex _ h
      rw [clip_at (by omega)] at h2
      refine Or.inr (Or.inr (Nat.pos_of_ne_zero fun h3 => ?_))
      have := i4.2.mp h3 t (by omega)
      omega
  · obtain ⟨n1, n2⟩ := not_or.mp hno
    obtain ⟨n3, n4⟩ := not_or.mp n2
    have n1 := Decidable.of_not_not n1
    have n3 := Decidable.of_not_not n3
    have n4 : anyS (clip 4 (M 10)) (M 9 0) = false := by simpa using n4
    obtain ⟨a, ha, rfl⟩ : ∃ v : Nat, (1 ≤ v ∧ v ≤ 100) ∧ a1 = (v : Int) := ⟨a1.toNat, by omega, by omega⟩
    obtain ⟨b, hb, rfl⟩ : ∃ v : Nat, (1 ≤ v ∧ v ≤ 100) ∧ a2 = (v : Int) := ⟨a2.toNat, by omega, by omega⟩
    have hz : ∀ t, t < 4 → M 10 t = 0 := fun t ht => by
      by_cases c : M 9 0 ≤ t
      · exact (i10 t ht c).1
      · refine Decidable.byContradiction fun h3 => ?_
        have := anyS_le (anyS_t (sa := clip 4 (M 10)) (n := t) (by rw [clip_at ht]; omega)) (show t + 1 ≤ M 9 0 by omega)
        rw [n4] at this
        cases this
    have hp : ∀ t, t < 4 → M 12 t = 0 := fun t ht => (i8 t ht).2.2.2 (hz t ht)
    refine stp_mk 1 (va_up M 3 (va_up (va_up (M 3) 0 a) 1 b)) kp hy hM hk ?_ (fun sz => c_X6_rate_yes x (x + 1) (M 9 0) (M 3 0) (M 3 1) (M 8 0) (clip 4 (M 10)) (M 11) (fun t => M 12 t / M 3 1) a b (by omega) rfl i7 hT hsa ha hb n4 x0 L0 L3) (fun r u hq => ?_) (fun u hu sz => c_X7_rate_yes y (M 4) (M 3) a b (by omega) mSl mRa ha hb (i4.2.mpr hz) hu.1 hu.2.2.2.2.1 hu.2.2.2.1) (fun u r v' hu h => ?_)
    · exact ⟨i1, i2, ⟨ha, hb⟩, ⟨Nat.le_succ_of_le i4.1, i4.2⟩, i5, i6, i7, fun t ht => ⟨Nat.le_succ_of_le (i8 t ht).1, (i8 t ht).2.1, by rw [show va_up M 3 (va_up (va_up (M 3) 0 a) 1 b) 12 t = 0 from hp t ht]; exact Nat.zero_mod _, (i8 t ht).2.2.2⟩, i9, i10, i11⟩
    · obtain ⟨hne, hr, c0⟩ := hq
      exact ⟨hr, fun j hj => hne j (by omega), Cls_land (fun j a b d => hne j (by omega)) ⟨c0, fun k hk => coinAt_fr (fun j a b => hne j (by omega)) (L1 k hk), goodAt_fr (fun j a b => hne j (by omega)) L2, (hne _ (by omega)).trans L3, (hne _ (by omega)).trans L4, fun t ht => by rw [dTl_rb (hp t ht)]; exact tillAt_fr (fun j a b => hne j (by omega)) (L5 t ht)⟩ (Hi_up (Hi_r M) (fun q hq => by have h9 : 2 ≤ q := hq; rw [va_up_ne _ _ (by omega), va_up_ne _ _ (by omega)])) hC⟩
    · obtain ⟨hne, hr, c1⟩ := h
      obtain ⟨m0, m1, m2, m3, m4, m5, m6, m7, m8, m9, m10, m11, m12, m13, m14, m15, m16, m17, m18, m19, m20, m21, m22, m23, m24, m25, m26⟩ := id hu
      exact ⟨hr, fun j hj => hne j (by omega), (hne _ (by omega)).trans m0, (hne _ (by omega)).trans m1, (hne _ (by omega)).trans m2, c1, (hne _ (by omega)).trans m4, (hne _ (by omega)).trans m5, (hne _ (by omega)).trans m6, (hne _ (by omega)).trans m7, (hne _ (by omega)).trans m8, (hne _ (by omega)).trans m9, (hne _ (by omega)).trans m10, (hne _ (by omega)).trans m11, (hne _ (by omega)).trans m12, (hne _ (by omega)).trans m13, (hne _ (by omega)).trans m14, (hne _ (by omega)).trans m15, (hne _ (by omega)).trans m16, (hne _ (by omega)).trans m17, ex_fr m18 (hne _ (by omega)), ex_fr m19 (hne _ (by omega)), ex_fr m20 (hne _ (by omega)), ex_fr m21 (hne _ (by omega)), ex_fr m22 (hne _ (by omega)), ex_fr m23 (hne _ (by omega)), ex_fr m24 (hne _ (by omega)), ex_fr m25 (hne _ (by omega)), (hne _ (by omega)).trans m26⟩
set_option maxHeartbeats 4000000 in
theorem k_good {l : Launch} {G : nG} {N : Nat} {ad : Nat → Nat} {x y c : Nat} {w : Nat → va_E} (hN : N = x + 246) (hy : y = x + 219) (hc : c ≤ 600) (hS : Sd G ad x y c w) (a1 : Int) (a2 : Int) (r_a1 : -2147483648 ≤ a1 ∧ a1 < 2147483648) (r_a2 : -2147483648 ≤ a2 ∧ a2 < 2147483648) : StpI l G N ad x y c w yX6_good yX7_good wsX6_good wsX7_good ({ frames := 2, cells := 0, slots := 0, locals := 44 }) ({ frames := 1, cells := 0, slots := 0, locals := 22 }) [.int (iI a1), .int (iI a2)] := by
  obtain ⟨M, kp, hC, hM, hk, hI⟩ := hS
  obtain ⟨i1, i2, i3, i4, i5, i6, i7, i8, i9, i10, i11⟩ := id hI
  obtain ⟨mCo, mVa, mRa, mSl, mGo, mPr, mTi, mSt, mTl, mTs, mEx, mHa⟩ := inv_mod hc hI
  obtain ⟨x0, hL, x2, x3, x4, x5, x6, x7⟩ := id hC
  obtain ⟨L0, L1, L2, L3, L4, L5⟩ := id hL
  by_cases hno : M 5 0 = 14 ∨ ¬ (1 ≤ a1 ∧ a1 ≤ 10000) ∨ ¬ (0 ≤ a2 ∧ a2 ≤ 100)
  · exact stp_rd (-1) hy hC hM hk hI (fun sz => c_X6_good_no x (x + 1) (M 9 0) (M 3 0) (M 3 1) (M 8 0) (M 5 0) a1 a2 (by omega) rfl i5.1 r_a1 r_a2 hno x0 L0 L2.1) (fun u hu sz => c_X7_good_no y (M 5) a1 a2 (by omega) mGo r_a1 r_a2 hno hu.1 hu.2.2.2.2.2.1) (fun u r v hu h => mod_eq hu h)
  · obtain ⟨a, ha, rfl⟩ : ∃ v : Nat, (1 ≤ v ∧ v ≤ 10000) ∧ a1 = (v : Int) := ⟨a1.toNat, by omega, by omega⟩
    obtain ⟨b, hb, rfl⟩ : ∃ v : Nat, v ≤ 100 ∧ a2 = (v : Int) := ⟨a2.toNat, by omega, by omega⟩
    have i51 := i5.1
    have hg : M 5 0 < 14 := by omega
    refine stp_mk (M 5 0 : Int) (va_up (va_up (va_up M 5 (va_up (M 5) 0 (M 5 0 + 1))) 6 (va_up (M 6) (M 5 0) a)) 7 (va_up (M 7) (M 5 0) b)) kp hy hM hk ?_ (fun sz => c_X6_good_yes x (x + 1) (M 9 0) (M 3 0) (M 3 1) (M 8 0) (M 5 0) (clip 14 (M 6)) (clip 14 (M 7)) a b (by omega) rfl hg ha hb (clip_le mPr) (clip_le mTi) x0 L0 L2.1 L2.2.1 L2.2.2) (fun r u hq => ?_) (fun u hu sz => c_X7_good_yes y (M 5) (M 6) (M 7) a b (by omega) mGo mPr mTi hg ha hb hu.1 hu.2.2.2.2.2.1 hu.2.2.2.2.2.2.1 hu.2.2.2.2.2.2.2.1) (fun u r v' hu h => ?_)
    · refine ⟨i1, i2, i3, ⟨Nat.le_succ_of_le i4.1, i4.2⟩, ⟨?_, fun q hq => ?_⟩, i6, i7, fun t ht => ⟨Nat.le_succ_of_le (i8 t ht).1, (i8 t ht).2⟩, i9, i10, i11⟩
      · show M 5 0 + 1 ≤ 14
        omega
      · show va_up (M 6) (M 5 0) a q ≤ 10000 ∧ va_up (M 7) (M 5 0) b q ≤ 100
        by_cases e : q = M 5 0
        · rw [e, va_up_self, va_up_self]
          omega
        · rw [va_up_ne _ _ e, va_up_ne _ _ e]
          exact i5.2 q hq
    · obtain ⟨hne, hr, c0, c1, c2⟩ := hq
      rw [clip_up hg] at c1 c2
      exact ⟨hr, fun j hj => hne j (by omega) (by omega) (by omega), Cls_land (fun j a b d => hne j (by omega) (by omega) (by omega)) ⟨(hne _ (by omega) (by omega) (by omega)).trans L0, fun k hk => coinAt_fr (fun j a b => hne j (by omega) (by omega) (by omega)) (L1 k hk), ⟨c0, c1, c2⟩, (hne _ (by omega) (by omega) (by omega)).trans L3, (hne _ (by omega) (by omega) (by omega)).trans L4, fun t ht => tillAt_fr (fun j a b => hne j (by omega) (by omega) (by omega)) (L5 t ht)⟩ (Hi_up (Hi_up (Hi_up (Hi_r M) (Hi_1 (by decide))) (Hi_1 (by show _ < 14; omega))) (Hi_1 (by show _ < 14; omega))) hC⟩
    · obtain ⟨hne, hr, c1, c2, c3⟩ := h
      obtain ⟨m0, m1, m2, m3, m4, m5, m6, m7, m8, m9, m10, m11, m12, m13, m14, m15, m16, m17, m18, m19, m20, m21, m22, m23, m24, m25, m26⟩ := id hu
      exact ⟨hr, fun j hj => hne j (by omega) (by omega) (by omega), (hne _ (by omega) (by omega) (by omega)).trans m0, (hne _ (by omega) (by omega) (by omega)).trans m1, (hne _ (by omega) (by omega) (by omega)).trans m2, (hne _ (by omega) (by omega) (by omega)).trans m3, (hne _ (by omega) (by omega) (by omega)).trans m4, c1, c2, c3, (hne _ (by omega) (by omega) (by omega)).trans m8, (hne _ (by omega) (by omega) (by omega)).trans m9, (hne _ (by omega) (by omega) (by omega)).trans m10, (hne _ (by omega) (by omega) (by omega)).trans m11, (hne _ (by omega) (by omega) (by omega)).trans m12, (hne _ (by omega) (by omega) (by omega)).trans m13, (hne _ (by omega) (by omega) (by omega)).trans m14, (hne _ (by omega) (by omega) (by omega)).trans m15, (hne _ (by omega) (by omega) (by omega)).trans m16, (hne _ (by omega) (by omega) (by omega)).trans m17, ex_fr m18 (hne _ (by omega) (by omega) (by omega)), ex_fr m19 (hne _ (by omega) (by omega) (by omega)), ex_fr m20 (hne _ (by omega) (by omega) (by omega)), ex_fr m21 (hne _ (by omega) (by omega) (by omega)), ex_fr m22 (hne _ (by omega) (by omega) (by omega)), ex_fr m23 (hne _ (by omega) (by omega) (by omega)), ex_fr m24 (hne _ (by omega) (by omega) (by omega)), ex_fr m25 (hne _ (by omega) (by omega) (by omega)), (hne _ (by omega) (by omega) (by omega)).trans m26⟩
set_option maxHeartbeats 4000000 in
theorem k_sold {l : Launch} {G : nG} {N : Nat} {ad : Nat → Nat} {x y c : Nat} {w : Nat → va_E} (hN : N = x + 246) (hy : y = x + 219) (hc : c ≤ 600) (hS : Sd G ad x y c w) (a1 : Int) (a2 : Int) (r_a1 : -2147483648 ≤ a1 ∧ a1 < 2147483648) (r_a2 : -2147483648 ≤ a2 ∧ a2 < 2147483648) : StpI l G N ad x y c w yX6_sold yX7_sold wsX6_sold wsX7_sold ({ frames := 2, cells := 0, slots := 0, locals := 43 }) ({ frames := 2, cells := 0, slots := 0, locals := 43 }) [.int (iI a1), .int (iI a2)] := by
  obtain ⟨M, kp, hC, hM, hk, hI⟩ := hS
  obtain ⟨i1, i2, i3, i4, i5, i6, i7, i8, i9, i10, i11⟩ := id hI
  obtain ⟨mCo, mVa, mRa, mSl, mGo, mPr, mTi, mSt, mTl, mTs, mEx, mHa⟩ := inv_mod hc hI
  obtain ⟨x0, hL, x2, x3, x4, x5, x6, x7⟩ := id hC
  obtain ⟨L0, L1, L2, L3, L4, L5⟩ := id hL
  by_cases hno : ¬ (0 ≤ a1 ∧ a1 < (M 5 0 : Int)) ∨ ¬ (0 ≤ a2 ∧ a2 ≤ 100)
  · exact stp_rd (bI False) hy hC hM hk hI (fun sz => c_X6_sold_no x (x + 1) (M 9 0) (M 3 0) (M 3 1) (M 8 0) (M 5 0) a1 a2 (by omega) rfl i5.1 r_a1 r_a2 hno x0 L0 L2.1) (fun u hu sz => c_X7_sold_no y (M 5) a1 a2 (by omega) mGo r_a1 r_a2 hno hu.1 hu.2.2.2.2.2.1) (fun u r v hu h => mod_eq hu ⟨h.1, h.2.trans (bI_f id).symm⟩)
  · obtain ⟨a, ha, rfl⟩ : ∃ v : Nat, v < M 5 0 ∧ a1 = (v : Int) := ⟨a1.toNat, by omega, by omega⟩
    obtain ⟨b, hb, rfl⟩ : ∃ v : Nat, v ≤ 100 ∧ a2 = (v : Int) := ⟨a2.toNat, by omega, by omega⟩
    have i51 := i5.1
    refine stp_mk 1 (va_up M 7 (va_up (M 7) a b)) kp hy hM hk ?_ (fun sz => c_X6_sold_yes x (x + 1) (M 9 0) (M 3 0) (M 3 1) (M 8 0) (M 5 0) (clip 14 (M 6)) (clip 14 (M 7)) a b (by omega) rfl i5.1 ha hb (clip_le mPr) (clip_le mTi) x0 L0 L2.1 L2.2.1 L2.2.2) (fun r u hq => ?_) (fun u hu sz => c_X7_sold_yes y (M 5) (M 7) a b (by omega) mGo mTi ha hb hu.1 hu.2.2.2.2.2.1 hu.2.2.2.2.2.2.2.1) (fun u r v' hu h => ?_)
    · refine ⟨i1, i2, i3, ⟨Nat.le_succ_of_le i4.1, i4.2⟩, ⟨i51, fun q hq => ?_⟩, i6, i7, fun t ht => ⟨Nat.le_succ_of_le (i8 t ht).1, (i8 t ht).2⟩, i9, i10, i11⟩
      show M 6 q ≤ 10000 ∧ va_up (M 7) a b q ≤ 100
      by_cases e : q = a
      · rw [e, va_up_self]
        exact ⟨(i5.2 a (by omega)).1, hb⟩
      · rw [va_up_ne _ _ e]
        exact i5.2 q hq
    · obtain ⟨hne, hr, c2⟩ := hq
      rw [clip_up (by omega)] at c2
      exact ⟨hr, fun j hj => hne j (by omega), Cls_land (fun j a b d => hne j (by omega)) ⟨(hne _ (by omega)).trans L0, fun k hk => coinAt_fr (fun j a b => hne j (by omega)) (L1 k hk), ⟨(hne _ (by omega)).trans L2.1, (hne _ (by omega)).trans L2.2.1, c2⟩, (hne _ (by omega)).trans L3, (hne _ (by omega)).trans L4, fun t ht => tillAt_fr (fun j a b => hne j (by omega)) (L5 t ht)⟩ (Hi_up (Hi_r M) (Hi_1 (by show _ < 14; omega))) hC⟩
    · obtain ⟨hne, hr, c3⟩ := h
      obtain ⟨m0, m1, m2, m3, m4, m5, m6, m7, m8, m9, m10, m11, m12, m13, m14, m15, m16, m17, m18, m19, m20, m21, m22, m23, m24, m25, m26⟩ := id hu
      exact ⟨hr, fun j hj => hne j (by omega), (hne _ (by omega)).trans m0, (hne _ (by omega)).trans m1, (hne _ (by omega)).trans m2, (hne _ (by omega)).trans m3, (hne _ (by omega)).trans m4, (hne _ (by omega)).trans m5, (hne _ (by omega)).trans m6, c3, (hne _ (by omega)).trans m8, (hne _ (by omega)).trans m9, (hne _ (by omega)).trans m10, (hne _ (by omega)).trans m11, (hne _ (by omega)).trans m12, (hne _ (by omega)).trans m13, (hne _ (by omega)).trans m14, (hne _ (by omega)).trans m15, (hne _ (by omega)).trans m16, (hne _ (by omega)).trans m17, ex_fr m18 (hne _ (by omega)), ex_fr m19 (hne _ (by omega)), ex_fr m20 (hne _ (by omega)), ex_fr m21 (hne _ (by omega)), ex_fr m22 (hne _ (by omega)), ex_fr m23 (hne _ (by omega)), ex_fr m24 (hne _ (by omega)), ex_fr m25 (hne _ (by omega)), (hne _ (by omega)).trans m26⟩
set_option maxHeartbeats 4000000 in
theorem k_step {l : Launch} {G : nG} {N : Nat} {ad : Nat → Nat} {x y c : Nat} {w : Nat → va_E} (hN : N = x + 246) (hy : y = x + 219) (hc : c ≤ 600) (hS : Sd G ad x y c w) (a1 : Int) (r_a1 : -2147483648 ≤ a1 ∧ a1 < 2147483648) : StpI l G N ad x y c w yX6_step yX7_step wsX6_step wsX7_step ({ frames := 1, cells := 0, slots := 0, locals := 22 }) ({ frames := 1, cells := 0, slots := 0, locals := 22 }) [.int (iI a1)] := by
  obtain ⟨M, kp, hC, hM, hk, hI⟩ := hS
  obtain ⟨i1, i2, i3, i4, i5, i6, i7, i8, i9, i10, i11⟩ := id hI
  obtain ⟨mCo, mVa, mRa, mSl, mGo, mPr, mTi, mSt, mTl, mTs, mEx, mHa⟩ := inv_mod hc hI
  obtain ⟨x0, hL, x2, x3, x4, x5, x6, x7⟩ := id hC
  obtain ⟨L0, L1, L2, L3, L4, L5⟩ := id hL
  by_cases hno : 1 ≤ a1 ∧ a1 ≤ 100
  · obtain ⟨a, ha, rfl⟩ : ∃ v : Nat, (1 ≤ v ∧ v ≤ 100) ∧ a1 = (v : Int) := ⟨a1.toNat, by omega, by omega⟩
    refine stp_mk 1 (va_up M 8 (va_up (M 8) 0 a)) kp hy hM hk ?_ (fun sz => c_X6_step_yes x (x + 1) (M 9 0) (M 3 0) (M 3 1) (M 8 0) a (by omega) rfl ha x0 L0) (fun r u hq => ?_) (fun u hu sz => c_X7_step_yes y (M 8) a (by omega) mSt ha hu.1 hu.2.2.2.2.2.2.2.2.1) (fun u r v' hu h => ?_)
    · exact ⟨i1, i2, i3, ⟨Nat.le_succ_of_le i4.1, i4.2⟩, i5, ha, i7, fun t ht => ⟨Nat.le_succ_of_le (i8 t ht).1, (i8 t ht).2⟩, i9, i10, i11⟩
    · obtain ⟨hne, hr, c0⟩ := hq
      exact ⟨hr, fun j hj => hne j (by omega), Cls_land (fun j a b d => hne j (by omega)) ⟨c0, fun k hk => coinAt_fr (fun j a b => hne j (by omega)) (L1 k hk), goodAt_fr (fun j a b => hne j (by omega)) L2, (hne _ (by omega)).trans L3, (hne _ (by omega)).trans L4, fun t ht => tillAt_fr (fun j a b => hne j (by omega)) (L5 t ht)⟩ (Hi_up (Hi_r M) (Hi_1 (by decide))) hC⟩
    · obtain ⟨hne, hr, c3⟩ := h
      obtain ⟨m0, m1, m2, m3, m4, m5, m6, m7, m8, m9, m10, m11, m12, m13, m14, m15, m16, m17, m18, m19, m20, m21, m22, m23, m24, m25, m26⟩ := id hu
      exact ⟨hr, fun j hj => hne j (by omega), (hne _ (by omega)).trans m0, (hne _ (by omega)).trans m1, (hne _ (by omega)).trans m2, (hne _ (by omega)).trans m3, (hne _ (by omega)).trans m4, (hne _ (by omega)).trans m5, (hne _ (by omega)).trans m6, (hne _ (by omega)).trans m7, c3, (hne _ (by omega)).trans m9, (hne _ (by omega)).trans m10, (hne _ (by omega)).trans m11, (hne _ (by omega)).trans m12, (hne _ (by omega)).trans m13, (hne _ (by omega)).trans m14, (hne _ (by omega)).trans m15, (hne _ (by omega)).trans m16, (hne _ (by omega)).trans m17, ex_fr m18 (hne _ (by omega)), ex_fr m19 (hne _ (by omega)), ex_fr m20 (hne _ (by omega)), ex_fr m21 (hne _ (by omega)), ex_fr m22 (hne _ (by omega)), ex_fr m23 (hne _ (by omega)), ex_fr m24 (hne _ (by omega)), ex_fr m25 (hne _ (by omega)), (hne _ (by omega)).trans m26⟩
  · exact stp_rd (bI False) hy hC hM hk hI (fun sz => c_X6_step_no x (x + 1) (M 9 0) (M 3 0) (M 3 1) (M 8 0) a1 (by omega) rfl r_a1 hno x0 L0) (fun u hu sz => c_X7_step_no y a1 (by omega) r_a1 hno hu.1) (fun u r v hu h => mod_eq hu ⟨h.1, h.2.trans (bI_f id).symm⟩)
set_option maxHeartbeats 4000000 in
theorem k_price {l : Launch} {G : nG} {N : Nat} {ad : Nat → Nat} {x y c : Nat} {w : Nat → va_E} (hN : N = x + 246) (hy : y = x + 219) (hc : c ≤ 600) (hS : Sd G ad x y c w) (a1 : Int) (a2 : Int) (r_a1 : -2147483648 ≤ a1 ∧ a1 < 2147483648) (r_a2 : -2147483648 ≤ a2 ∧ a2 < 2147483648) : StpI l G N ad x y c w yX6_price yX7_price wsX6_price wsX7_price ({ frames := 2, cells := 0, slots := 0, locals := 49 }) ({ frames := 2, cells := 0, slots := 0, locals := 43 }) [.int (iI a1), .int (iI a2)] := by
  obtain ⟨M, kp, hC, hM, hk, hI⟩ := hS
  obtain ⟨i1, i2, i3, i4, i5, i6, i7, i8, i9, i10, i11⟩ := id hI
  obtain ⟨mCo, mVa, mRa, mSl, mGo, mPr, mTi, mSt, mTl, mTs, mEx, mHa⟩ := inv_mod hc hI
  obtain ⟨x0, hL, x2, x3, x4, x5, x6, x7⟩ := id hC
  obtain ⟨L0, L1, L2, L3, L4, L5⟩ := id hL
  by_cases hno : ¬ (0 ≤ a1 ∧ a1 < (M 5 0 : Int)) ∨ ¬ (0 ≤ a2 ∧ a2 ≤ 3)
  · exact stp_rd (-1) hy hC hM hk hI (fun sz => c_X6_price_no x (x + 1) (M 9 0) (M 3 0) (M 3 1) (M 8 0) (M 5 0) a1 a2 (by omega) rfl i5.1 r_a1 r_a2 hno x0 L0 L2.1) (fun u hu sz => c_X7_price_no y (M 5) a1 a2 (by omega) mGo r_a1 r_a2 hno hu.1 hu.2.2.2.2.2.1) (fun u r v hu h => mod_eq hu h)
  · obtain ⟨a, ha, rfl⟩ : ∃ v : Nat, v < M 5 0 ∧ a1 = (v : Int) := ⟨a1.toNat, by omega, by omega⟩
    obtain ⟨b, hb, rfl⟩ : ∃ v : Nat, v ≤ 3 ∧ a2 = (v : Int) := ⟨a2.toNat, by omega, by omega⟩
    have i51 := i5.1
    exact stp_rd _ hy hC hM hk hI (fun sz => c_X6_price_yes x (x + 1) (M 9 0) (M 3 0) (M 3 1) (M 8 0) (M 5 0) (clip 14 (M 6)) (clip 14 (M 7)) a b (by omega) rfl i7 i3.1 i3.2 i6 (clip_le mPr) (clip_le mTi) i5.1 ha hb x0 L0 L2.1 L2.2.1 L2.2.2) (fun u hu sz => c_X7_price_yes y (M 3) (M 5) (M 6) (M 7) (M 8) a b (by omega) mRa mGo mPr mTi mSt ha hb hu.1 hu.2.2.2.1 hu.2.2.2.2.2.1 hu.2.2.2.2.2.2.1 hu.2.2.2.2.2.2.2.1 hu.2.2.2.2.2.2.2.2.1) (fun u r v hu h => mod_eq hu ⟨h.1, by rw [clip_at (by omega)]; exact h.2⟩)
set_option maxHeartbeats 4000000 in
theorem k_gain {l : Launch} {G : nG} {N : Nat} {ad : Nat → Nat} {x y c : Nat} {w : Nat → va_E} (hN : N = x + 246) (hy : y = x + 219) (hc : c ≤ 600) (hS : Sd G ad x y c w) (a1 : Int) (r_a1 : -2147483648 ≤ a1 ∧ a1 < 2147483648) : StpL l G N ad x y c w yX6_gain yX7_gain wsX6_gain wsX7_gain ({ frames := 3, cells := 0, slots := 0, locals := 73 }) ({ frames := 2, cells := 0, slots := 0, locals := 50 }) [.int (iI a1)] := by
  obtain ⟨M, kp, hC, hM, hk, hI⟩ := hS
  obtain ⟨i1, i2, i3, i4, i5, i6, i7, i8, i9, i10, i11⟩ := id hI
  obtain ⟨mCo, mVa, mRa, mSl, mGo, mPr, mTi, mSt, mTl, mTs, mEx, mHa⟩ := inv_mod hc hI
  obtain ⟨x0, hL, x2, x3, x4, x5, x6, x7⟩ := id hC
  obtain ⟨L0, L1, L2, L3, L4, L5⟩ := id hL
  by_cases hno : 0 ≤ a1 ∧ a1 ≤ 3
  · obtain ⟨a, ha, rfl⟩ : ∃ v : Nat, v ≤ 3 ∧ a1 = (v : Int) := ⟨a1.toNat, by omega, by omega⟩
    exact stpL_rd _ hy hC hM hk hI (fun sz => c_X6_gain_yes x (x + 1) (M 9 0) (M 3 0) (M 3 1) (M 8 0) (M 5 0) (clip 14 (M 6)) (clip 14 (M 7)) a (by omega) rfl i7 i3.1 i3.2 i6 (clip_le mPr) (clip_le mTi) i5.1 ha x0 L0 L2.1 L2.2.1 L2.2.2) (fun u hu sz => c_X7_gain_yes y (M 3) (M 5) (M 6) (M 7) (M 8) a (by omega) mRa mGo mPr mTi mSt ha hu.1 hu.2.2.2.1 hu.2.2.2.2.2.1 hu.2.2.2.2.2.2.1 hu.2.2.2.2.2.2.2.1 hu.2.2.2.2.2.2.2.2.1) (fun u r v hu h => mod_eq hu ⟨h.1, h.2.trans (sumI_c _ (fun q hq => gnV_c (clip_at (by have := i5.1; omega)) (clip_at (by have := i5.1; omega)))).symm⟩)
  · exact stpL_rd 0 hy hC hM hk hI (fun sz => c_X6_gain_no x (x + 1) (M 9 0) (M 3 0) (M 3 1) (M 8 0) a1 (by omega) rfl r_a1 hno x0 L0) (fun u hu sz => c_X7_gain_no y (M 5) a1 (by omega) mGo r_a1 hno hu.1 hu.2.2.2.2.2.1) (fun u r v hu h => mod_eq hu h)
set_option maxHeartbeats 4000000 in
theorem k_gains {l : Launch} {G : nG} {N : Nat} {ad : Nat → Nat} {x y c : Nat} {w : Nat → va_E} (hN : N = x + 246) (hy : y = x + 219) (hc : c ≤ 600) (hS : Sd G ad x y c w) (a1 : Int) (r_a1 : -2147483648 ≤ a1 ∧ a1 < 2147483648) : StpL l G N ad x y c w yX6_gains yX7_gains wsX6_gains wsX7_gains ({ frames := 3, cells := 0, slots := 0, locals := 73 }) ({ frames := 2, cells := 0, slots := 0, locals := 50 }) [.int (iI a1)] := by
  obtain ⟨M, kp, hC, hM, hk, hI⟩ := hS
  obtain ⟨i1, i2, i3, i4, i5, i6, i7, i8, i9, i10, i11⟩ := id hI
  obtain ⟨mCo, mVa, mRa, mSl, mGo, mPr, mTi, mSt, mTl, mTs, mEx, mHa⟩ := inv_mod hc hI
  obtain ⟨x0, hL, x2, x3, x4, x5, x6, x7⟩ := id hC
  obtain ⟨L0, L1, L2, L3, L4, L5⟩ := id hL
  exact stpL_rd _ hy hC hM hk hI (fun sz => c_X6_gains x (x + 1) (M 9 0) (M 3 0) (M 3 1) (M 8 0) (M 5 0) (clip 14 (M 6)) (clip 14 (M 7)) a1 (by omega) rfl i7 i3.1 i3.2 i6 (clip_le mPr) (clip_le mTi) i5.1 r_a1 x0 L0 L2.1 L2.2.1 L2.2.2) (fun u hu sz => c_X7_gains y (M 3) (M 5) (M 6) (M 7) (M 8) a1 (by omega) mRa mGo mPr mTi mSt r_a1 hu.1 hu.2.2.2.1 hu.2.2.2.2.2.1 hu.2.2.2.2.2.2.1 hu.2.2.2.2.2.2.2.1 hu.2.2.2.2.2.2.2.2.1) (fun u r v hu h => mod_eq hu ⟨h.1, h.2.trans (sumI_c _ (fun q hq => gnV_c (clip_at (by have := i5.1; omega)) (clip_at (by have := i5.1; omega)))).symm⟩)
set_option maxHeartbeats 4000000 in
theorem k_till {l : Launch} {G : nG} {N : Nat} {ad : Nat → Nat} {x y c : Nat} {w : Nat → va_E} (hN : N = x + 246) (hy : y = x + 219) (hc : c ≤ 600) (hS : Sd G ad x y c w) : StpI l G N ad x y c w yX6_till yX7_till wsX6_till wsX7_till ({ frames := 0, cells := 0, slots := 0, locals := 0 }) ({ frames := 1, cells := 0, slots := 0, locals := 22 }) [] := by
  obtain ⟨M, kp, hC, hM, hk, hI⟩ := hS
  obtain ⟨i1, i2, i3, i4, i5, i6, i7, i8, i9, i10, i11⟩ := id hI
  obtain ⟨mCo, mVa, mRa, mSl, mGo, mPr, mTi, mSt, mTl, mTs, mEx, mHa⟩ := inv_mod hc hI
  obtain ⟨x0, hL, x2, x3, x4, x5, x6, x7⟩ := id hC
  obtain ⟨L0, L1, L2, L3, L4, L5⟩ := id hL
  by_cases hno : M 9 0 = 4
  · exact stp_rd (-1) hy hC hM hk hI (fun sz => c_X6_till_no x (x + 1) (M 9 0) (M 3 0) (M 3 1) (M 8 0) (by omega) rfl hno x0 L0) (fun u hu sz => c_X7_till_no y (M 9) (by omega) mTl hno hu.1 hu.2.2.2.2.2.2.2.2.2.1) (fun u r v hu h => mod_eq hu h)
  · have hn : M 9 0 < 4 := by omega
    have hb := i10 (M 9 0) hn (Nat.le_refl _)
    refine stp_mk (M 9 0 : Int) (va_up M 9 (va_up (M 9) 0 (M 9 0 + 1))) kp hy hM hk ?_ (fun sz => c_X6_till_yes x (x + 1) (M 9 0) (M 3 0) (M 3 1) (M 8 0) (by omega) rfl hn x0 L0) (fun r u hq => ?_) (fun u hu sz => c_X7_till_yes y (M 9) (M 10) (M 11) (M 12) (M 13) (M 14) (M 15) (by omega) mTl mTs mEx mHa hn ⟨hb.1, hb.2.1, hb.2.2.1, hb.2.2.2.1⟩ hb.2.2.2.2.1 hb.2.2.2.2.2 hu.1 hu.2.2.2.2.2.2.2.2.2.1 hu.2.2.2.2.2.2.2.2.2.2.1 hu.2.2.2.2.2.2.2.2.2.2.2.1 hu.2.2.2.2.2.2.2.2.2.2.2.2.1 hu.2.2.2.2.2.2.2.2.2.2.2.2.2.1 hu.2.2.2.2.2.2.2.2.2.2.2.2.2.2.1 hu.2.2.2.2.2.2.2.2.2.2.2.2.2.2.2.1) (fun u r v' hu h => ?_)
    · exact ⟨i1, i2, i3, ⟨Nat.le_succ_of_le i4.1, i4.2⟩, i5, i6, (show M 9 0 + 1 ≤ 4 by omega), fun t ht => ⟨Nat.le_succ_of_le (i8 t ht).1, (i8 t ht).2⟩, i9, fun t ht ht2 => i10 t ht (by have h9 : M 9 0 + 1 ≤ t := ht2; omega), i11⟩
    · obtain ⟨hne, hr, c0⟩ := hq
      exact ⟨hr, fun j hj => hne j (by omega), Cls_land (fun j a b d => hne j (by omega)) ⟨c0, fun k hk => coinAt_fr (fun j a b => hne j (by omega)) (L1 k hk), goodAt_fr (fun j a b => hne j (by omega)) L2, (hne _ (by omega)).trans L3, (hne _ (by omega)).trans L4, fun t ht => tillAt_fr (fun j a b => hne j (by omega)) (L5 t ht)⟩ (Hi_up (Hi_r M) (Hi_1 (by decide))) hC⟩
    · obtain ⟨hne, hr, c9, c10, c11, c12, c13, c14, c15⟩ := h
      obtain ⟨m0, m1, m2, m3, m4, m5, m6, m7, m8, m9, m10, m11, m12, m13, m14, m15, m16, m17, m18, m19, m20, m21, m22, m23, m24, m25, m26⟩ := id hu
      exact ⟨hr, fun j hj => hne j (by omega) (by omega) (by omega) (by omega) (by omega) (by omega) (by omega), (hne _ (by omega) (by omega) (by omega) (by omega) (by omega) (by omega) (by omega)).trans m0, (hne _ (by omega) (by omega) (by omega) (by omega) (by omega) (by omega) (by omega)).trans m1, (hne _ (by omega) (by omega) (by omega) (by omega) (by omega) (by omega) (by omega)).trans m2, (hne _ (by omega) (by omega) (by omega) (by omega) (by omega) (by omega) (by omega)).trans m3, (hne _ (by omega) (by omega) (by omega) (by omega) (by omega) (by omega) (by omega)).trans m4, (hne _ (by omega) (by omega) (by omega) (by omega) (by omega) (by omega) (by omega)).trans m5, (hne _ (by omega) (by omega) (by omega) (by omega) (by omega) (by omega) (by omega)).trans m6, (hne _ (by omega) (by omega) (by omega) (by omega) (by omega) (by omega) (by omega)).trans m7, (hne _ (by omega) (by omega) (by omega) (by omega) (by omega) (by omega) (by omega)).trans m8, c9, c10, c11, c12, c13, c14, c15, (hne _ (by omega) (by omega) (by omega) (by omega) (by omega) (by omega) (by omega)).trans m16, (hne _ (by omega) (by omega) (by omega) (by omega) (by omega) (by omega) (by omega)).trans m17, ex_fr m18 (hne _ (by omega) (by omega) (by omega) (by omega) (by omega) (by omega) (by omega)), ex_fr m19 (hne _ (by omega) (by omega) (by omega) (by omega) (by omega) (by omega) (by omega)), ex_fr m20 (hne _ (by omega) (by omega) (by omega) (by omega) (by omega) (by omega) (by omega)), ex_fr m21 (hne _ (by omega) (by omega) (by omega) (by omega) (by omega) (by omega) (by omega)), ex_fr m22 (hne _ (by omega) (by omega) (by omega) (by omega) (by omega) (by omega) (by omega)), ex_fr m23 (hne _ (by omega) (by omega) (by omega) (by omega) (by omega) (by omega) (by omega)), ex_fr m24 (hne _ (by omega) (by omega) (by omega) (by omega) (by omega) (by omega) (by omega)), ex_fr m25 (hne _ (by omega) (by omega) (by omega) (by omega) (by omega) (by omega) (by omega)), (hne _ (by omega) (by omega) (by omega) (by omega) (by omega) (by omega) (by omega)).trans m26⟩
set_option maxHeartbeats 4000000 in
theorem k_about {l : Launch} {G : nG} {N : Nat} {ad : Nat → Nat} {x y c : Nat} {w : Nat → va_E} (hN : N = x + 246) (hy : y = x + 219) (hc : c ≤ 600) (hS : Sd G ad x y c w) (a1 : Int) (a2 : Int) (r_a1 : -2147483648 ≤ a1 ∧ a1 < 2147483648) (r_a2 : -2147483648 ≤ a2 ∧ a2 < 2147483648) : StpI l G N ad x y c w yX6_about yX7_about wsX6_about wsX7_about ({ frames := 4, cells := 0, slots := 0, locals := 85 }) ({ frames := 1, cells := 0, slots := 0, locals := 22 }) [.int (iI a1), .int (iI a2)] := by
  obtain ⟨M, kp, hC, hM, hk, hI⟩ := hS
  obtain ⟨i1, i2, i3, i4, i5, i6, i7, i8, i9, i10, i11⟩ := id hI
  obtain ⟨mCo, mVa, mRa, mSl, mGo, mPr, mTi, mSt, mTl, mTs, mEx, mHa⟩ := inv_mod hc hI
  obtain ⟨x0, hL, x2, x3, x4, x5, x6, x7⟩ := id hC
  obtain ⟨L0, L1, L2, L3, L4, L5⟩ := id hL
  have i51 := i5.1
  by_cases h2 : a1 = 2
  · subst h2
    exact stp_rd _ hy hC hM hk hI (fun sz => c_X6_about_2 x (x + 1) (M 9 0) (M 3 0) (M 3 1) (M 8 0) (M 5 0) (clip 14 (M 6)) (clip 14 (M 7)) a2 (by omega) rfl (clip_le mPr) (clip_le mTi) i5.1 r_a2 x0 L0 L2.1 L2.2.1 L2.2.2) (fun u hu sz => c_X7_about_2 y (M 3) (M 5) (M 6) (M 7) (M 8) (M 9) a2 (by omega) mRa mGo mPr mTi mSt mTl r_a2 hu.1 hu.2.2.2.1 hu.2.2.2.2.2.1 hu.2.2.2.2.2.2.1 hu.2.2.2.2.2.2.2.1 hu.2.2.2.2.2.2.2.2.1 hu.2.2.2.2.2.2.2.2.2.1) (fun u r v hu h => mod_eq hu ⟨h.1, h.2.trans (ldD_c (fun k hk => (clip_at (by omega)).symm) (fun k hk => (clip_at (by omega)).symm))⟩)
  · by_cases h0 : a1 = 0 ∨ a1 = 1
    · obtain ⟨sy, hs, rfl⟩ : ∃ sy : Nat, sy < 2 ∧ a1 = (sy : Int) := ⟨a1.toNat, by omega, by omega⟩
      obtain ⟨v1, v2, v3, v4, v5, v6, v7, v8⟩ := inv_coin hI hs
      refine stp_rd _ hy hC hM hk hI (fun sz => c_X6_about_s x (x + 1) (M 9 0) (M 3 0) (M 3 1) (M 8 0) sy (M 1 sy) (dV M sy) a2 (by omega) rfl hs v6 v1 r_a2 x0 L0 (L1 sy hs).1 (L1 sy hs).2.1) (fun u hu sz => c_X7_about_s y (M 1) (M 2) sy a2 (by omega) mCo mVa hs r_a2 hu.1 hu.2.1 hu.2.2.1) (fun u r v hu h => mod_eq hu ⟨h.1, h.2.trans ?_⟩)
      by_cases c1 : a2 = 0
      · rw [if_pos c1, if_pos c1]
      · rw [if_neg c1, if_neg c1]
        by_cases c2 : 10 ≤ a2 ∧ a2 < 10 + (M 1 sy : Int)
        · rw [if_pos c2, if_pos c2, v7 _ (by omega)]
        · rw [if_neg c2, if_neg c2]
    · have h3 : ¬ a1 = 0 ∧ ¬ a1 = 1 ∧ ¬ a1 = 2 := by omega
      exact stp_rd (-1) hy hC hM hk hI (fun sz => c_X6_about_no x (x + 1) (M 9 0) (M 3 0) (M 3 1) (M 8 0) a1 a2 (by omega) rfl r_a1 h3 x0 L0) (fun u hu sz => c_X7_about_no y a1 a2 (by omega) r_a1 h3 hu.1) (fun u r v hu h => mod_eq hu h)
