
section MK2
variable {l : Launch} {G : nG} {N : Nat} {ad : Nat → Nat} {x y c : Nat} {w : Nat → va_E} {yA yB : MethodName} {wsA wsB : List Cond} {rmA rmB : Room} {args : List Value} {M M' : Nat → Nat → Nat} {kp kp' : Nat → Nat}
def mQ (G : nG) (ad : Nat → Nat) (y : Nat) (M' : Nat → Nat → Nat) (kp' : Nat → Nat) (R : Int) (u : Nat → va_E) (r : Int) (v : Nat → va_E) : Prop := r = R ∧ (∀ j, ¬ (y ≤ j ∧ j < y + 27) → v j = u j) ∧ Mod G ad v y M' kp'
theorem stp_mk2 (R : Int) (M' : Nat → Nat → Nat) (kp' : Nat → Nat) {postA : Int → (Nat → va_E) → Prop} (hy : y = x + 219) (hM : Mod G ad w y M kp) (hk : ∀ k, kp' k ≤ 1) (hI : LInv (c + 1) M')
    (hA : ∀ sz, Met l yA wsA rmA (va_Pc (.ref (ad x) :: args) (nB G N ad w sz)) (nPi G N ad sz postA) 0 0 (nA N ad sz)) (hA2 : ∀ r u, postA r u → r = R ∧ (∀ j, ¬ (x ≤ j ∧ j < x + 219) → u j = w j) ∧ Cls G ad u x (c + 1) M' kp')
    (hB : ∀ u, Mod G ad u y M kp → ∀ sz, Met l yB wsB rmB (va_Pc (.ref (ad y) :: args) (nB G N ad u sz)) (nPi G N ad sz (mQ G ad y M' kp' R u)) 0 0 (nA N ad sz)) : StpI l G N ad x y c w yA yB wsA wsB rmA rmB args := stp_mk R M' kp' hy hM hk hI hA hA2 (postB := mQ G ad y M' kp' R) hB (fun _ _ _ _ h => h)
theorem stp_rd2 (R : Int) (hy : y = x + 219) (hC : Cls G ad w x c M kp) (hM : Mod G ad w y M kp) (hk : ∀ k, kp k ≤ 1) (hI : LInv c M)
    (hA : ∀ sz, Met l yA wsA rmA (va_Pc (.ref (ad x) :: args) (nB G N ad w sz)) (nRd (.int (iI R))) 0 0 (fun _ => False))
    (hB : ∀ u, Mod G ad u y M kp → ∀ sz, Met l yB wsB rmB (va_Pc (.ref (ad y) :: args) (nB G N ad u sz)) (nPi G N ad sz (mQ G ad y M kp R u)) 0 0 (nA N ad sz)) : StpI l G N ad x y c w yA yB wsA wsB rmA rmB args := stp_rd R hy hC hM hk hI hA (postB := mQ G ad y M kp R) hB (fun _ _ _ _ h => h)
end MK2
/-- the class's scratch alone changes -/
theorem Cls_scr {G : nG} {ad : Nat → Nat} {w w1 : Nat → va_E} {x c : Nat} {M : Nat → Nat → Nat} {kp : Nat → Nat} (hne : ∀ j, x ≤ j → j < x + 219 → ¬ (x + 54 ≤ j ∧ j ≤ x + 68 ∧ j ≠ x + 55) → w1 j = w j) (h4 : ∃ rz tb P0 C0, makAt G ad w1 (x + 53) rz tb P0 C0) (h5 : ∃ f : Nat → Int, w1 (x + 67) = aI G 8 f) (h6 : ∃ f : Nat → Int, w1 (x + 68) = aJ G 14 f) (h : Cls G ad w x c M kp) : Cls G ad w1 x (c + 1) M kp := by
  obtain ⟨a0, a1, a2, a3, a4, a5, a6, a7⟩ := h
  exact ⟨(hne _ (by omega) (by omega) (by omega)).trans a0, LandAt_fr (fun j p q => hne j (by omega) (by omega) (by omega)) a1, (hne _ (by omega) (by omega) (by omega)).trans a2, (hne _ (by omega) (by omega) (by omega)).trans a3, h4, h5, h6, fun k hk => Img_fr (fun j p q => hne j (by omega) (by omega) (by omega)) (Nat.le_succ c) rfl (fun _ _ _ => rfl) (a7 k hk)⟩
theorem dHc_at {M : Nat → Nat → Nat} {t s1 q : Nat} (hs : s1 < 2) (hq : q < 8) : dHc M t s1 q = M 14 (16 * t + 8 * s1 + q) := by
  unfold dHc
  rw [if_pos hs]
  exact clip_at hq
theorem dHd_at {M : Nat → Nat → Nat} {t s1 q : Nat} (ht : t < 4) (hs : s1 < 2) (hq : q < 8) : dHd M t s1 q = M 14 (16 * t + 8 * s1 + q) := by
  unfold dHd
  rw [if_pos ht]
  exact dHc_at hs hq
theorem dTl_h {M : Nat → Nat → Nat} {t : Nat} {r : Nat → Nat} (h : ∀ s1, s1 < 2 → dH (va_up M 14 r) t s1 = dH M t s1) : dTl (va_up M 14 r) t = dTl M t := by
  funext i q
  match i with
  | 0 => rfl
  | 1 => rfl
  | 2 => rfl
  | 3 => rfl
  | 4 => exact congrFun (h 0 (by omega)) q
  | 5 => exact congrFun (h 1 (by omega)) q
  | 6 => rfl
  | 7 => rfl
  | 8 => rfl
  | 9 => rfl
  | k + 10 => rfl
theorem dH_up {M : Nat → Nat → Nat} {t t' s1 sy kk nv : Nat} (ht : t < 4) (ht' : t' < 4) (hs : s1 < 2) (hs' : sy < 2) (hk : kk < 8) : dH (va_up M 14 (va_up (M 14) (16 * t + 8 * sy + kk) nv)) t' s1 = if t' = t ∧ s1 = sy then va_up (dH M t sy) kk nv else dH M t' s1 := by
  show clip 8 (fun q => va_up (M 14) (16 * t + 8 * sy + kk) nv (16 * t' + 8 * s1 + q)) = _
  by_cases e : t' = t ∧ s1 = sy
  · rw [if_pos e, e.1, e.2]
    unfold dH
    rw [clip_up hk]
    refine clip_c fun q hq => ?_
    by_cases e2 : q = kk
    · rw [e2, va_up_self, va_up_self]
    · rw [va_up_ne _ _ e2, va_up_ne _ _ (by omega)]
  · rw [if_neg e]
    exact clip_c fun q hq => va_up_ne _ _ (by omega)
theorem up_le {f : Nat → Nat} {i v B q : Nat} (hf : f q ≤ B) (hv : v ≤ B) : va_up f i v q ≤ B := by
  by_cases e : q = i
  · rw [e, va_up_self]
    exact hv
  · rw [va_up_ne _ _ e]
    exact hf
set_option maxHeartbeats 4000000 in
theorem k_put {l : Launch} {G : nG} {N : Nat} {ad : Nat → Nat} {x y c : Nat} {w : Nat → va_E} (hN : N = x + 246) (hy : y = x + 219) (hc : c ≤ 600) (hS : Sd G ad x y c w) (a1 : Int) (a2 : Int) (a3 : Int) (a4 : Int) (r_a1 : -2147483648 ≤ a1 ∧ a1 < 2147483648) (r_a2 : -2147483648 ≤ a2 ∧ a2 < 2147483648) (r_a3 : -2147483648 ≤ a3 ∧ a3 < 2147483648) (r_a4 : -2147483648 ≤ a4 ∧ a4 < 2147483648) : StpI l G N ad x y c w yX6_put yX7_put wsX6_put wsX7_put ({ frames := 3, cells := 0, slots := 0, locals := 66 }) ({ frames := 2, cells := 0, slots := 0, locals := 44 }) [.int (iI a1), .int (iI a2), .int (iI a3), .int (iI a4)] := by
  obtain ⟨M, kp, hC, hM, hk, hI⟩ := hS
  obtain ⟨i1, i2, i3, i4, i5, i6, i7, i8, i9, i10, i11⟩ := id hI
  obtain ⟨mCo, mVa, mRa, mSl, mGo, mPr, mTi, mSt, mTl, mTs, mEx, mHa⟩ := inv_mod hc hI
  obtain ⟨x0, hL, x2, x3, x4, x5, x6, x7⟩ := id hC
  obtain ⟨L0, L1, L2, L3, L4, L5⟩ := id hL
  have hT := tl_T L5
  by_cases hv : (0 ≤ a1 ∧ a1 < (M 9 0 : Int)) ∧ (a2 = 0 ∨ a2 = 1) ∧ (0 ≤ a3 ∧ a3 < (M 1 a2.toNat : Int))
  · obtain ⟨t, ht, rfl⟩ : ∃ t : Nat, t < M 9 0 ∧ a1 = (t : Int) := ⟨a1.toNat, by omega, by omega⟩
    obtain ⟨sy, hs, rfl⟩ : ∃ sy : Nat, sy < 2 ∧ a2 = (sy : Int) := ⟨a2.toNat, by omega, by omega⟩
    obtain ⟨kk, hkk, rfl⟩ : ∃ kk : Nat, kk < M 1 sy ∧ a3 = (kk : Int) := ⟨a3.toNat, by have h9 := hv.2.2; rw [Int.toNat_natCast] at h9; omega, by omega⟩
    have hk8 := i1 sy hs
    have ht4 : t < 4 := by omega
    have e1 : dHd M t sy kk = M 14 (16 * t + 8 * sy + kk) := dHd_at ht4 hs (by omega)
    by_cases ho : 0 ≤ (M 14 (16 * t + 8 * sy + kk) : Int) + a4 ∧ (M 14 (16 * t + 8 * sy + kk) : Int) + a4 ≤ 1000
    · obtain ⟨nv, hn1, hn2⟩ : ∃ nv : Nat, (nv : Int) = (M 14 (16 * t + 8 * sy + kk) : Int) + a4 ∧ nv ≤ 1000 := ⟨((M 14 (16 * t + 8 * sy + kk) : Int) + a4).toNat, by omega, by omega⟩
      have e2 : dHc M t sy kk = M 14 (16 * t + 8 * sy + kk) := dHc_at hs (by omega)
      refine stp_mk (nv : Int) (va_up M 14 (va_up (M 14) (16 * t + 8 * sy + kk) nv)) kp hy hM hk ?_ (fun sz => c_X6_put_yes x (x + 1) (M 9 0) (M 3 0) (M 3 1) (M 8 0) (M 1) (M 10 t) (M 11 t) (M 12 t / M 3 1) (dHc M t) t sy kk a4 nv (by omega) rfl i1 i7 (dHc_le hI ht4) ht hs hkk r_a4 (by rw [e2]; exact hn1) hn2 x0 L0 L3 (tl_cn L1) (L5 t ht4).1 (tl_h L5 ht4)) (fun r u hq => ?_) (fun u hu sz => c_X7_put_yes y (M 1) (M 9) (M 14) t sy kk a4 nv (by omega) mCo mTl mHa ht hs hkk r_a4 hn1 hn2 hu.1 hu.2.1 hu.2.2.2.2.2.2.2.2.2.1 hu.2.2.2.2.2.2.2.2.2.2.2.2.2.2.1) (fun u r v' hu h => ?_)
      · refine ⟨i1, i2, i3, ⟨Nat.le_succ_of_le i4.1, i4.2⟩, i5, i6, i7, fun t ht => ⟨Nat.le_succ_of_le (i8 t ht).1, (i8 t ht).2⟩, fun q hq => up_le (i9 q hq) hn2, fun t' ht' ht2 => ?_, i11⟩
        have h9 := i10 t' ht' ht2
        have h8 : M 9 0 ≤ t' := ht2
        exact ⟨h9.1, h9.2.1, h9.2.2.1, h9.2.2.2.1, fun q hq => by show va_up (M 14) (16 * t + 8 * sy + kk) nv (16 * t' + q) = 0; rw [va_up_ne _ _ (by omega)]; exact h9.2.2.2.2.1 q hq, h9.2.2.2.2.2⟩
      · obtain ⟨hne, hr, c0⟩ := hq
        have hd : dHc M t sy = dH M t sy := if_pos hs
        rw [hd] at c0
        refine ⟨hr, fun j hj => hne j (by omega), Cls_land (fun j a b d => hne j (by omega)) ⟨(hne _ (by omega)).trans L0, fun k hk => coinAt_fr (fun j a b => hne j (by omega)) (L1 k hk), goodAt_fr (fun j a b => hne j (by omega)) L2, (hne _ (by omega)).trans L3, (hne _ (by omega)).trans L4, fun t' ht' => ?_⟩ (Hi_up (Hi_r M) (Hi_1 (by show _ < 64; omega))) hC⟩
        by_cases e : t' = t
        · subst e
          have eh := fun s1 (h1 : s1 < 2) => dH_up (M := M) (t := t') (t' := t') (s1 := s1) (sy := sy) (kk := kk) (nv := nv) ht4 ht4 h1 hs (by omega)
          obtain ⟨p0, p1, p2, p3, p4, p5, p6, p7, p8⟩ := L5 t' ht'
          refine ⟨(hne _ (by omega)).trans p0, ?_, ?_, (hne _ (by omega)).trans p3, (hne _ (by omega)).trans p4, (hne _ (by omega)).trans p5, (hne _ (by omega)).trans p6, (hne _ (by omega)).trans p7, (hne _ (by omega)).trans p8⟩
          · show u _ = aI G 8 (fun q => (dH _ t' 0 q : Int))
            rw [eh 0 (by omega)]
            by_cases e3 : sy = 0
            · subst e3
              rw [if_pos ⟨rfl, rfl⟩]
              exact c0
            · rw [if_neg (fun h9 => e3 h9.2.symm)]
              exact (hne _ (by omega)).trans p1
          · show u _ = aI G 8 (fun q => (dH _ t' 1 q : Int))
            rw [eh 1 (by omega)]
            by_cases e3 : sy = 1
            · subst e3
              rw [if_pos ⟨rfl, rfl⟩]
              exact c0
            · rw [if_neg (fun h9 => e3 h9.2.symm)]
              exact (hne _ (by omega)).trans p2
        · rw [dTl_h (fun s1 h1 => by rw [dH_up ht4 ht' h1 hs (by omega), if_neg (fun h9 => e h9.1)])]
          exact tillAt_fr (fun j a b => hne j (by omega)) (L5 t' ht')
      · obtain ⟨hne, hr, c3⟩ := h
        obtain ⟨m0, m1, m2, m3, m4, m5, m6, m7, m8, m9, m10, m11, m12, m13, m14, m15, m16, m17, m18, m19, m20, m21, m22, m23, m24, m25, m26⟩ := id hu
        exact ⟨hr, fun j hj => hne j (by omega), (hne _ (by omega)).trans m0, (hne _ (by omega)).trans m1, (hne _ (by omega)).trans m2, (hne _ (by omega)).trans m3, (hne _ (by omega)).trans m4, (hne _ (by omega)).trans m5, (hne _ (by omega)).trans m6, (hne _ (by omega)).trans m7, (hne _ (by omega)).trans m8, (hne _ (by omega)).trans m9, (hne _ (by omega)).trans m10, (hne _ (by omega)).trans m11, (hne _ (by omega)).trans m12, (hne _ (by omega)).trans m13, c3, (hne _ (by omega)).trans m15, (hne _ (by omega)).trans m16, (hne _ (by omega)).trans m17, ex_fr m18 (hne _ (by omega)), ex_fr m19 (hne _ (by omega)), ex_fr m20 (hne _ (by omega)), ex_fr m21 (hne _ (by omega)), ex_fr m22 (hne _ (by omega)), ex_fr m23 (hne _ (by omega)), ex_fr m24 (hne _ (by omega)), ex_fr m25 (hne _ (by omega)), (hne _ (by omega)).trans m26⟩
    · exact stp_rd (-1) hy hC hM hk hI (fun sz => c_X6_put_no x (x + 1) (M 9 0) (M 3 0) (M 3 1) (M 8 0) (M 1) (clip 4 (M 10)) (M 11) (fun t => M 12 t / M 3 1) (dHd M) (t : Int) (sy : Int) (kk : Int) a4 (by omega) rfl i1 i7 hT (tl_hd L5) (dHd_le hI) (by omega) (by omega) (by omega) r_a4 (fun h9 => ho (by rw [Int.toNat_natCast, Int.toNat_natCast, Int.toNat_natCast, e1] at h9; exact h9.2.2.2)) x0 L0 L3 (tl_cn L1)) (fun u hu sz => c_X7_put_out y (M 1) (M 9) (M 14) t sy kk a4 (by omega) mCo mTl mHa ht hs hkk r_a4 ho hu.1 hu.2.1 hu.2.2.2.2.2.2.2.2.2.1 hu.2.2.2.2.2.2.2.2.2.2.2.2.2.2.1) (fun u r v hu h => mod_eq hu h)
  · exact stp_rd (-1) hy hC hM hk hI (fun sz => c_X6_put_no x (x + 1) (M 9 0) (M 3 0) (M 3 1) (M 8 0) (M 1) (clip 4 (M 10)) (M 11) (fun t => M 12 t / M 3 1) (dHd M) a1 a2 a3 a4 (by omega) rfl i1 i7 hT (tl_hd L5) (dHd_le hI) r_a1 r_a2 r_a3 r_a4 (fun h9 => hv ⟨h9.1, h9.2.1, h9.2.2.1⟩) x0 L0 L3 (tl_cn L1)) (fun u hu sz => c_X7_put_no y (M 1) (M 9) a1 a2 a3 a4 (by omega) mCo mTl r_a1 r_a2 r_a3 hv hu.1 hu.2.1 hu.2.2.2.2.2.2.2.2.2.1) (fun u r v hu h => mod_eq hu h)
set_option maxHeartbeats 4000000 in
theorem k_has {l : Launch} {G : nG} {N : Nat} {ad : Nat → Nat} {x y c : Nat} {w : Nat → va_E} (hN : N = x + 246) (hy : y = x + 219) (hc : c ≤ 600) (hS : Sd G ad x y c w) (a1 : Int) (a2 : Int) (a3 : Int) (r_a1 : -2147483648 ≤ a1 ∧ a1 < 2147483648) (r_a2 : -2147483648 ≤ a2 ∧ a2 < 2147483648) (r_a3 : -2147483648 ≤ a3 ∧ a3 < 2147483648) : StpI l G N ad x y c w yX6_has yX7_has wsX6_has wsX7_has ({ frames := 3, cells := 0, slots := 0, locals := 66 }) ({ frames := 2, cells := 0, slots := 0, locals := 44 }) [.int (iI a1), .int (iI a2), .int (iI a3)] := by
  obtain ⟨M, kp, hC, hM, hk, hI⟩ := hS
  obtain ⟨i1, i2, i3, i4, i5, i6, i7, i8, i9, i10, i11⟩ := id hI
  obtain ⟨mCo, mVa, mRa, mSl, mGo, mPr, mTi, mSt, mTl, mTs, mEx, mHa⟩ := inv_mod hc hI
  obtain ⟨x0, hL, x2, x3, x4, x5, x6, x7⟩ := id hC
  obtain ⟨L0, L1, L2, L3, L4, L5⟩ := id hL
  have hT := tl_T L5
  by_cases hv : (0 ≤ a1 ∧ a1 < (M 9 0 : Int)) ∧ (a2 = 0 ∨ a2 = 1) ∧ (0 ≤ a3 ∧ a3 < (M 1 a2.toNat : Int))
  · obtain ⟨t, ht, rfl⟩ : ∃ t : Nat, t < M 9 0 ∧ a1 = (t : Int) := ⟨a1.toNat, by omega, by omega⟩
    obtain ⟨sy, hs, rfl⟩ : ∃ sy : Nat, sy < 2 ∧ a2 = (sy : Int) := ⟨a2.toNat, by omega, by omega⟩
    obtain ⟨kk, hkk, rfl⟩ : ∃ kk : Nat, kk < M 1 sy ∧ a3 = (kk : Int) := ⟨a3.toNat, by have h9 := hv.2.2; rw [Int.toNat_natCast] at h9; omega, by omega⟩
    have hk8 := i1 sy hs
    have ht4 : t < 4 := by omega
    have e2 : dHc M t sy kk = M 14 (16 * t + 8 * sy + kk) := dHc_at hs (by omega)
    exact stp_rd _ hy hC hM hk hI (fun sz => c_X6_has_yes x (x + 1) (M 9 0) (M 3 0) (M 3 1) (M 8 0) (M 1) (M 10 t) (M 11 t) (M 12 t / M 3 1) (dHc M t) t sy kk (by omega) rfl i1 i7 (dHc_le hI ht4) ht hs hkk x0 L0 L3 (tl_cn L1) (L5 t ht4).1 (tl_h L5 ht4)) (fun u hu sz => c_X7_has_yes y (M 1) (M 9) (M 14) t sy kk (by omega) mCo mTl mHa ht hs hkk hu.1 hu.2.1 hu.2.2.2.2.2.2.2.2.2.1 hu.2.2.2.2.2.2.2.2.2.2.2.2.2.2.1) (fun u r v hu h => mod_eq hu ⟨h.1, by rw [e2]; exact h.2⟩)
  · exact stp_rd (-1) hy hC hM hk hI (fun sz => c_X6_has_no x (x + 1) (M 9 0) (M 3 0) (M 3 1) (M 8 0) (M 1) (clip 4 (M 10)) (M 11) (fun t => M 12 t / M 3 1) (dHd M) a1 a2 a3 (by omega) rfl i1 i7 hT (tl_hd L5) (dHd_le hI) r_a1 r_a2 r_a3 hv x0 L0 L3 (tl_cn L1)) (fun u hu sz => c_X7_has_no y (M 1) (M 9) a1 a2 a3 (by omega) mCo mTl r_a1 r_a2 r_a3 hv hu.1 hu.2.1 hu.2.2.2.2.2.2.2.2.2.1) (fun u r v hu h => mod_eq hu h)
set_option maxHeartbeats 4000000 in
theorem k_given {l : Launch} {G : nG} {N : Nat} {ad : Nat → Nat} {x y c : Nat} {w : Nat → va_E} (hN : N = x + 246) (hy : y = x + 219) (hc : c ≤ 600) (hS : Sd G ad x y c w) (a1 : Int) (a2 : Int) (r_a1 : -2147483648 ≤ a1 ∧ a1 < 2147483648) (r_a2 : -2147483648 ≤ a2 ∧ a2 < 2147483648) : StpI l G N ad x y c w yX6_given yX7_given wsX6_given wsX7_given ({ frames := 3, cells := 0, slots := 0, locals := 66 }) ({ frames := 2, cells := 0, slots := 0, locals := 44 }) [.int (iI a1), .int (iI a2)] := by
  obtain ⟨M, kp, hC, hM, hk, hI⟩ := hS
  obtain ⟨i1, i2, i3, i4, i5, i6, i7, i8, i9, i10, i11⟩ := id hI
  obtain ⟨mCo, mVa, mRa, mSl, mGo, mPr, mTi, mSt, mTl, mTs, mEx, mHa⟩ := inv_mod hc hI
  obtain ⟨x0, hL, x2, x3, x4, x5, x6, x7⟩ := id hC
  obtain ⟨L0, L1, L2, L3, L4, L5⟩ := id hL
  have hT := tl_T L5
  have hsa := clip4_le hc hI
  by_cases hv : (0 ≤ a1 ∧ a1 < (M 9 0 : Int)) ∧ ¬ M 10 a1.toNat = 0 ∧ (0 ≤ a2 ∧ a2 < (M 1 1 : Int))
  · obtain ⟨v1, v2, v3⟩ := hv
    obtain ⟨t, ht, rfl⟩ : ∃ t : Nat, t < M 9 0 ∧ a1 = (t : Int) := ⟨a1.toNat, by omega, by omega⟩
    have ht4 : t < 4 := by omega
    obtain ⟨kk, hkk, rfl⟩ : ∃ kk : Nat, kk < M 1 1 ∧ a2 = (kk : Int) := ⟨a2.toNat, by omega, by omega⟩
    have hk8 := i1 1 (by omega)
    rw [Int.toNat_natCast] at v2
    have h10 := (i8 t ht4).1
    have e2 : clip 8 (fun q => M 15 (8 * t + q)) kk = M 15 (8 * t + kk) := clip_at (by omega)
    exact stp_rd _ hy hC hM hk hI (fun sz => c_X6_given_yes x (x + 1) (M 9 0) (M 3 0) (M 3 1) (M 8 0) (M 1) (M 10 t) (M 11 t) (M 12 t / M 3 1) t kk (clip 8 (fun q => M 15 (8 * t + q))) (by omega) rfl i1 i7 ht ⟨v2, by omega⟩ hkk x0 L0 L3 (tl_cn L1) (L5 t ht4).1 (L5 t ht4).2.2.2.1) (fun u hu sz => c_X7_given_yes y (M 1) (M 9) (M 10) (M 15) t kk (by omega) mCo mTl mTs ht v2 hkk hu.1 hu.2.1 hu.2.2.2.2.2.2.2.2.2.1 hu.2.2.2.2.2.2.2.2.2.2.1 hu.2.2.2.2.2.2.2.2.2.2.2.2.2.2.2.1) (fun u r v hu h => mod_eq hu ⟨h.1, by rw [e2]; exact h.2⟩)
  · exact stp_rd (-1) hy hC hM hk hI (fun sz => c_X6_given_no x (x + 1) (M 9 0) (M 3 0) (M 3 1) (M 8 0) (M 1) (clip 4 (M 10)) (M 11) (fun t => M 12 t / M 3 1) a1 a2 (by omega) rfl i1 i7 hT hsa r_a1 r_a2 (fun h9 => hv ⟨h9.1, by have h8 := h9.2.1; rw [clip_at (by omega)] at h8; exact h8, h9.2.2⟩) x0 L0 L3 (tl_cn L1)) (fun u hu sz => c_X7_given_no y (M 1) (M 9) (M 10) a1 a2 (by omega) mCo mTl mTs r_a1 r_a2 hv hu.1 hu.2.1 hu.2.2.2.2.2.2.2.2.2.1 hu.2.2.2.2.2.2.2.2.2.2.1) (fun u r v hu h => mod_eq hu h)
set_option maxHeartbeats 4000000 in
theorem k_tell {l : Launch} {G : nG} {N : Nat} {ad : Nat → Nat} {x y c : Nat} {w : Nat → va_E} (hN : N = x + 246) (hy : y = x + 219) (hc : c ≤ 600) (hS : Sd G ad x y c w) (a1 : Int) (a2 : Int) (r_a1 : -2147483648 ≤ a1 ∧ a1 < 2147483648) (r_a2 : -2147483648 ≤ a2 ∧ a2 < 2147483648) : StpL l G N ad x y c w yX6_tell yX7_tell wsX6_tell wsX7_tell ({ frames := 2, cells := 0, slots := 0, locals := 47 }) ({ frames := 2, cells := 0, slots := 0, locals := 47 }) [.int (iI a1), .int (iI a2)] := by
  obtain ⟨M, kp, hC, hM, hk, hI⟩ := hS
  obtain ⟨i1, i2, i3, i4, i5, i6, i7, i8, i9, i10, i11⟩ := id hI
  obtain ⟨mCo, mVa, mRa, mSl, mGo, mPr, mTi, mSt, mTl, mTs, mEx, mHa⟩ := inv_mod hc hI
  obtain ⟨x0, hL, x2, x3, x4, x5, x6, x7⟩ := id hC
  obtain ⟨L0, L1, L2, L3, L4, L5⟩ := id hL
  by_cases hv : 0 ≤ a1 ∧ a1 < (M 9 0 : Int)
  · obtain ⟨t, ht, rfl⟩ : ∃ t : Nat, t < M 9 0 ∧ a1 = (t : Int) := ⟨a1.toNat, by omega, by omega⟩
    have ht4 : t < 4 := by omega
    have h8 := i8 t ht4
    have hs : ∀ s1, s1 < 2 → sumP (dHc M t s1) (dVc M s1) (M 1 s1) = sumP (fun q9 => M 14 (16 * t + 8 * s1 + q9)) (fun q9 => M 2 (8 * s1 + q9)) (M 1 s1) := fun s1 h1 => sumP_c _ (fun k hk9 => by
      have := i1 s1 h1
      exact ⟨dHc_at h1 (by omega), by unfold dVc; rw [if_pos h1]; exact clip_at (by omega)⟩)
    exact stpL_rd _ hy hC hM hk hI (fun sz => c_X6_tell_yes x (x + 1) (M 9 0) (M 3 0) (M 3 1) (M 8 0) (M 1) (dVc M) (M 10 t) (M 11 t) (M 12 t / M 3 1) (M 13 t) t (dHc M t) a2 (by omega) rfl i7 i3.1 i3.2 i6 i1 (dVc_le hI) (dHc_le hI ht4) ht (by omega) h8.2.1 r_a2 x0 L0 L3 (tl_cn L1) (tl_vs L1) (L5 t ht4).1 (tl_h L5 ht4) (L5 t ht4).2.2.2.2.1) (fun u hu sz => c_X7_tell_yes y (M 1) (M 2) (M 3) (M 9) (M 10) (M 11) (M 12) (M 13) (M 14) t (M 12 t / M 3 1) a2 (by omega) mCo mVa mRa mTl mTs mEx mHa ht r_a2 (Nat.div_mul_cancel (Nat.dvd_of_mod_eq_zero h8.2.2.1)).symm hu.1 hu.2.1 hu.2.2.1 hu.2.2.2.1 hu.2.2.2.2.2.2.2.2.2.1 hu.2.2.2.2.2.2.2.2.2.2.1 hu.2.2.2.2.2.2.2.2.2.2.2.1 hu.2.2.2.2.2.2.2.2.2.2.2.2.1 hu.2.2.2.2.2.2.2.2.2.2.2.2.2.1 hu.2.2.2.2.2.2.2.2.2.2.2.2.2.2.1) (fun u r v hu h => mod_eq hu ⟨h.1, by rw [hs 0 (by omega), hs 1 (by omega)]; exact h.2⟩)
  · exact stpL_rd (-1) hy hC hM hk hI (fun sz => c_X6_tell_no x (x + 1) (M 9 0) (M 3 0) (M 3 1) (M 8 0) a1 a2 (by omega) rfl i7 r_a1 hv x0 L0) (fun u hu sz => c_X7_tell_no y (M 9) a1 a2 (by omega) mTl r_a1 hv hu.1 hu.2.2.2.2.2.2.2.2.2.1) (fun u r v hu h => mod_eq hu h)
set_option maxHeartbeats 4000000 in
theorem k_drawn {l : Launch} {G : nG} {N : Nat} {ad : Nat → Nat} {x y c : Nat} {w : Nat → va_E} (hN : N = x + 246) (hy : y = x + 219) (hc : c ≤ 600) (hS : Sd G ad x y c w) (a1 : Int) (r_a1 : -2147483648 ≤ a1 ∧ a1 < 2147483648) : StpI l G N ad x y c w yX6_drawn yX7_drawn wsX6_drawn wsX7_drawn ({ frames := 3, cells := 0, slots := 0, locals := 66 }) ({ frames := 2, cells := 0, slots := 0, locals := 44 }) [.int (iI a1)] := by
  obtain ⟨M, kp, hC, hM, hk, hI⟩ := hS
  obtain ⟨i1, i2, i3, i4, i5, i6, i7, i8, i9, i10, i11⟩ := id hI
  obtain ⟨mCo, mVa, mRa, mSl, mGo, mPr, mTi, mSt, mTl, mTs, mEx, mHa⟩ := inv_mod hc hI
  obtain ⟨x0, hL, x2, x3, x4, x5, x6, x7⟩ := id hC
  obtain ⟨L0, L1, L2, L3, L4, L5⟩ := id hL
  by_cases hv : 0 ≤ a1 ∧ a1 < (M 1 0 : Int)
  · obtain ⟨kk, hkk, rfl⟩ : ∃ kk : Nat, kk < M 1 0 ∧ a1 = (kk : Int) := ⟨a1.toNat, by omega, by omega⟩
    have hk8 := i1 0 (by omega)
    exact stp_rd _ hy hC hM hk hI (fun sz => c_X6_drawn_yes x (x + 1) (M 9 0) (M 3 0) (M 3 1) (M 8 0) (M 1) kk (clip 8 (M 16)) (by omega) rfl i1 hkk x0 L0 (tl_cn L1) L4) (fun u hu sz => c_X7_drawn_yes y (M 1) (M 16) kk (by omega) mCo hkk hu.1 hu.2.1 hu.2.2.2.2.2.2.2.2.2.2.2.2.2.2.2.2.1) (fun u r v hu h => mod_eq hu ⟨h.1, by rw [clip_at (by omega)]; exact h.2⟩)
  · exact stp_rd (-1) hy hC hM hk hI (fun sz => c_X6_drawn_no x (x + 1) (M 9 0) (M 3 0) (M 3 1) (M 8 0) (M 1) a1 (by omega) rfl i1 r_a1 hv x0 L0 (tl_cn L1)) (fun u hu sz => c_X7_drawn_no y (M 1) a1 (by omega) mCo r_a1 hv hu.1 hu.2.1) (fun u r v hu h => mod_eq hu h)
