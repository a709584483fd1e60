/-! ===== the state of both: M, the model's arrays by their numbers; a land is a section of M ===== -/
def sec (k : Nat) (M : Nat → Nat → Nat) : Nat → Nat → Nat := fun tag q => M tag (sect tag * k + q)
/-- what holds of a land after c calls -/
def LInv (c : Nat) (D : Nat → Nat → Nat) : Prop :=
  (∀ k, k < 2 → D 1 k ≤ 8) ∧ (∀ k, k < 2 → ∀ q, q < 8 → D 2 (8 * k + q) ≤ 1000 ∧ (q < D 1 k → 1 ≤ D 2 (8 * k + q))) ∧ ((1 ≤ D 3 0 ∧ D 3 0 ≤ 100) ∧ 1 ≤ D 3 1 ∧ D 3 1 ≤ 100) ∧
  (D 4 0 ≤ c ∧ (D 4 0 = 0 ↔ ∀ t, t < 4 → D 10 t = 0)) ∧ (D 5 0 ≤ 14 ∧ ∀ q, q < 14 → D 6 q ≤ 10000 ∧ D 7 q ≤ 100) ∧ (1 ≤ D 8 0 ∧ D 8 0 ≤ 100) ∧ D 9 0 ≤ 4 ∧
  (∀ t, t < 4 → D 10 t ≤ c ∧ D 13 t ≤ 20 ∧ D 12 t % D 3 1 = 0 ∧ (D 10 t = 0 → D 12 t = 0)) ∧ (∀ q, q < 64 → D 14 q ≤ 1000) ∧
  (∀ t, t < 4 → D 9 0 ≤ t → D 10 t = 0 ∧ D 11 t = 0 ∧ D 12 t = 0 ∧ D 13 t = 0 ∧ (∀ q, q < 16 → D 14 (16 * t + q) = 0) ∧ ∀ q, q < 8 → D 15 (8 * t + q) = 0) ∧
  (∀ t, t < 4 → ∀ q, q < D 13 t → (1 ≤ D 17 (80 * t + 4 * q) ∧ D 17 (80 * t + 4 * q) ≤ 2000) ∧ (1 ≤ D 17 (80 * t + 4 * q + 3) ∧ D 17 (80 * t + 4 * q + 3) ≤ 50) ∧ D 17 (80 * t + 4 * q + 1) < 2 ∧ D 17 (80 * t + 4 * q + 2) < D 1 (D 17 (80 * t + 4 * q + 1)))
theorem LInv_mono {c c' : Nat} {D : Nat → Nat → Nat} (hc : c ≤ c') (h : LInv c D) : LInv c' D := by
  obtain ⟨h1, h2, h3, h4, h5, h6, h7, h8, h9, h10, h11⟩ := h
  exact ⟨h1, h2, h3, ⟨Nat.le_trans h4.1 hc, h4.2⟩, h5, h6, h7, fun t ht => ⟨Nat.le_trans (h8 t ht).1 hc, (h8 t ht).2⟩, h9, h10, h11⟩
theorem LInv_c {c : Nat} {D E : Nat → Nat → Nat} (h : Agr D E) (hD : LInv c D) : LInv c E := by
  obtain ⟨h1, h2, h3, h4, h5, h6, h7, h8, h9, h10, h11⟩ := hD
  have e1 : ∀ k, k < 2 → D 1 k = E 1 k := fun k hk => h 1 k hk
  have e2 : ∀ k, k < 16 → D 2 k = E 2 k := fun k hk => h 2 k hk
  have e30 : D 3 0 = E 3 0 := h 3 0 (by decide)
  have e31 : D 3 1 = E 3 1 := h 3 1 (by decide)
  have e4 : D 4 0 = E 4 0 := h 4 0 (by decide)
  have e5 : D 5 0 = E 5 0 := h 5 0 (by decide)
  have e6 : ∀ k, k < 14 → D 6 k = E 6 k := fun k hk => h 6 k hk
  have e7 : ∀ k, k < 14 → D 7 k = E 7 k := fun k hk => h 7 k hk
  have e8 : D 8 0 = E 8 0 := h 8 0 (by decide)
  have e9 : D 9 0 = E 9 0 := h 9 0 (by decide)
  have e10 : ∀ k, k < 4 → D 10 k = E 10 k := fun k hk => h 10 k hk
  have e11 : ∀ k, k < 4 → D 11 k = E 11 k := fun k hk => h 11 k hk
  have e12 : ∀ k, k < 4 → D 12 k = E 12 k := fun k hk => h 12 k hk
  have e13 : ∀ k, k < 4 → D 13 k = E 13 k := fun k hk => h 13 k hk
  have e14 : ∀ k, k < 64 → D 14 k = E 14 k := fun k hk => h 14 k hk
  have e15 : ∀ k, k < 32 → D 15 k = E 15 k := fun k hk => h 15 k hk
  have e17 : ∀ k, k < 320 → D 17 k = E 17 k := fun k hk => h 17 k hk
  refine ⟨fun k hk => ?_, fun k hk q hq => ?_, ?_, ⟨?_, ?_, ?_⟩, ⟨?_, fun q hq => ?_⟩, ?_, ?_, fun t ht => ?_, fun q hq => ?_, fun t ht ht2 => ?_, fun t ht q hq => ?_⟩
  · rw [← e1 k hk]
    exact h1 k hk
  · rw [← e1 k hk, ← e2 (8 * k + q) (by omega)]
    exact h2 k hk q hq
  · rw [← e30, ← e31]
    exact h3
  · rw [← e4]
    exact h4.1
  · intro h0 t ht
    rw [← e10 t ht]
    exact h4.2.mp (by rw [e4]; exact h0) t ht
  · intro h0
    rw [← e4]
    exact h4.2.mpr (fun t ht => by rw [e10 t ht]; exact h0 t ht)
  · rw [← e5]
    exact h5.1
  · rw [← e6 q hq, ← e7 q hq]
    exact h5.2 q hq
  · rw [← e8]
    exact h6
  · rw [← e9]
    exact h7
  · rw [← e10 t ht, ← e13 t ht, ← e12 t ht, ← e31]
    exact h8 t ht
  · rw [← e14 q hq]
    exact h9 q hq
  · have h0 := h10 t ht (by rw [e9]; exact ht2)
    rw [← e10 t ht, ← e11 t ht, ← e12 t ht, ← e13 t ht]
    exact ⟨h0.1, h0.2.1, h0.2.2.1, h0.2.2.2.1, fun q hq => by rw [← e14 _ (by omega)]; exact h0.2.2.2.2.1 q hq, fun q hq => by rw [← e15 _ (by omega)]; exact h0.2.2.2.2.2 q hq⟩
  · have ht20 := (h8 t ht).2.1
    rw [← e13 t ht] at hq
    have h0 := h11 t ht q hq
    have i0 := e17 (80 * t + 4 * q) (by omega)
    have i1 := e17 (80 * t + 4 * q + 1) (by omega)
    have i2 := e17 (80 * t + 4 * q + 2) (by omega)
    have i3 := e17 (80 * t + 4 * q + 3) (by omega)
    rw [← i0, ← i1, ← i2, ← i3, ← e1 _ h0.2.2.1]
    exact h0
def Mod (G : nG) (ad : Nat → Nat) (w : Nat → va_E) (y : Nat) (M : Nat → Nat → Nat) (kp : Nat → Nat) : Prop :=
  w y = .inr (7, [.int (iI 0), .ref (ad (y + 1)), .ref (ad (y + 2)), .ref (ad (y + 3)), .ref (ad (y + 4)), .ref (ad (y + 5)), .ref (ad (y + 6)), .ref (ad (y + 7)), .ref (ad (y + 8)), .ref (ad (y + 9)), .ref (ad (y + 10)), .ref (ad (y + 11)), .ref (ad (y + 12)), .ref (ad (y + 13)), .ref (ad (y + 14)), .ref (ad (y + 15)), .ref (ad (y + 16)), .ref (ad (y + 17)), .ref (ad (y + 18)), .ref (ad (y + 19)), .ref (ad (y + 20)), .ref (ad (y + 21)), .ref (ad (y + 22)), .ref (ad (y + 23)), .ref (ad (y + 24)), .ref (ad (y + 25)), .ref (ad (y + 26))]) ∧
  w (y + 1) = aI G 8 (fun q => (M 1 q : Int)) ∧ w (y + 2) = aI G 64 (fun q => (M 2 q : Int)) ∧ w (y + 3) = aI G 8 (fun q => (M 3 q : Int)) ∧ w (y + 4) = aI G 4 (fun q => (M 4 q : Int)) ∧ w (y + 5) = aI G 4 (fun q => (M 5 q : Int)) ∧ w (y + 6) = aI G 56 (fun q => (M 6 q : Int)) ∧ w (y + 7) = aI G 56 (fun q => (M 7 q : Int)) ∧ w (y + 8) = aI G 4 (fun q => (M 8 q : Int)) ∧ w (y + 9) = aI G 4 (fun q => (M 9 q : Int)) ∧ w (y + 10) = aI G 16 (fun q => (M 10 q : Int)) ∧ w (y + 11) = aJ G 16 (fun q => (M 11 q : Int)) ∧ w (y + 12) = aJ G 16 (fun q => (M 12 q : Int)) ∧ w (y + 13) = aI G 16 (fun q => (M 13 q : Int)) ∧ w (y + 14) = aI G 256 (fun q => (M 14 q : Int)) ∧ w (y + 15) = aI G 128 (fun q => (M 15 q : Int)) ∧ w (y + 16) = aI G 32 (fun q => (M 16 q : Int)) ∧ w (y + 17) = aI G 1280 (fun q => (M 17 q : Int)) ∧
  (∃ f : Nat → Int, w (y + 18) = aJ G 28 f) ∧ (∃ f : Nat → Nat, w (y + 19) = aI G 8 (fun q => (f q : Int))) ∧ (∃ f : Nat → Int, w (y + 20) = aI G 18009 f) ∧ (∃ f : Nat → Nat, w (y + 21) = aI G 8 (fun q => (f q : Int))) ∧ (∃ f : Nat → Nat, w (y + 22) = aI G 8 (fun q => (f q : Int))) ∧ (∃ f : Nat → Int, w (y + 23) = aI G 2001 f) ∧ (∃ f : Nat → Int, w (y + 24) = aI G 8 f) ∧ (∃ f : Nat → Int, w (y + 25) = aI G 8 f) ∧ w (y + 26) = aZ G 3 (fun q => (kp q : Int))
theorem ex_fr {α : Type} {w w1 : Nat → va_E} {j : Nat} {F : α → va_E} (h : ∃ f, w j = F f) (e : w1 j = w j) : ∃ f, w1 j = F f := h.elim fun f hf => ⟨f, e.trans hf⟩
theorem Mod_fr {G : nG} {ad : Nat → Nat} {w w1 : Nat → va_E} {y : Nat} {M : Nat → Nat → Nat} {kp : Nat → Nat} (hne : ∀ j, y ≤ j → j < y + 27 → w1 j = w j) (h : Mod G ad w y M kp) : Mod G ad w1 y M kp := by
  obtain ⟨m0, m1, m2, m3, m4, m5, m6, m7, m8, m9, m10, m11, m12, m13, m14, m15, m16, m17, m18, m19, m20, m21, m22, m23, m24, m25, m26⟩ := h
  have e : ∀ k, k < 27 → w1 (y + k) = w (y + k) := fun k hk => hne _ (by omega) (by omega)
  exact ⟨(e 0 (by decide)).trans m0, (e 1 (by decide)).trans m1, (e 2 (by decide)).trans m2, (e 3 (by decide)).trans m3, (e 4 (by decide)).trans m4, (e 5 (by decide)).trans m5, (e 6 (by decide)).trans m6, (e 7 (by decide)).trans m7, (e 8 (by decide)).trans m8, (e 9 (by decide)).trans m9, (e 10 (by decide)).trans m10, (e 11 (by decide)).trans m11, (e 12 (by decide)).trans m12, (e 13 (by decide)).trans m13, (e 14 (by decide)).trans m14, (e 15 (by decide)).trans m15, (e 16 (by decide)).trans m16, (e 17 (by decide)).trans m17, ex_fr m18 (e 18 (by decide)), ex_fr m19 (e 19 (by decide)), ex_fr m20 (e 20 (by decide)), ex_fr m21 (e 21 (by decide)), ex_fr m22 (e 22 (by decide)), ex_fr m23 (e 23 (by decide)), ex_fr m24 (e 24 (by decide)), ex_fr m25 (e 25 (by decide)), (e 26 (by decide)).trans m26⟩
/-- an image: shaped like a land; if it was taken, section k + 1 of the model -/
def Img (G : nG) (ad : Nat → Nat) (w : Nat → va_E) (x c : Nat) (M : Nat → Nat → Nat) (kp : Nat → Nat) (k : Nat) : Prop := ∃ D, LandAt G ad w (x + 69 + 50 * k) D ∧ (kp k = 1 → Agr D (sec (k + 1) M) ∧ LInv c D)
def Cls (G : nG) (ad : Nat → Nat) (w : Nat → va_E) (x c : Nat) (M : Nat → Nat → Nat) (kp : Nat → Nat) : Prop :=
  w x = .inr (6, [.ref (ad (x + 1)), .ref (ad (x + 51)), .ref (ad (x + 52)), .ref (ad (x + 53)), .ref (ad (x + 67)), .ref (ad (x + 68))]) ∧ LandAt G ad w (x + 1) M ∧ w (x + 51) = aR G 4 3 (fun k => some (ad (x + 69 + 50 * k))) ∧ w (x + 52) = aZ G 3 (fun q => (kp q : Int)) ∧ (∃ rz tb P0 C0, makAt G ad w (x + 53) rz tb P0 C0) ∧ (∃ f : Nat → Int, w (x + 67) = aI G 8 f) ∧ (∃ f : Nat → Int, w (x + 68) = aJ G 14 f) ∧ ∀ k, k < 3 → Img G ad w x c M kp k
theorem Img_fr {G : nG} {ad : Nat → Nat} {w w1 : Nat → va_E} {x c c' : Nat} {M M' : Nat → Nat → Nat} {kp kp' : Nat → Nat} {k : Nat} (hne : ∀ j, x + 69 + 50 * k ≤ j → j < x + 69 + 50 * k + 50 → w1 j = w j) (hc : c ≤ c') (hk : kp' k = kp k) (hM : ∀ tag q, q < sect tag → sec (k + 1) M' tag q = sec (k + 1) M tag q) (h : Img G ad w x c M kp k) : Img G ad w1 x c' M' kp' k := by
  obtain ⟨D, h1, h2⟩ := h
  refine ⟨D, LandAt_fr hne h1, fun hq => ?_⟩
  have h3 := h2 (by rw [← hk]; exact hq)
  exact ⟨fun tag q hq2 => (h3.1 tag q hq2).trans (hM tag q hq2).symm, LInv_mono hc h3.2⟩
theorem Cls_fr {G : nG} {ad : Nat → Nat} {w w1 : Nat → va_E} {x c c' : Nat} {M : Nat → Nat → Nat} {kp : Nat → Nat} (hne : ∀ j, x ≤ j → j < x + 219 → w1 j = w j) (hc : c ≤ c') (h : Cls G ad w x c M kp) : Cls G ad w1 x c' M kp := by
  obtain ⟨h0, h1, h2, h3, h4, h5, h6, h7⟩ := h
  refine ⟨(hne _ (by omega) (by omega)).trans h0, LandAt_fr (fun j a b => hne j (by omega) (by omega)) h1, (hne _ (by omega) (by omega)).trans h2, (hne _ (by omega) (by omega)).trans h3, ?_, ex_fr h5 (hne _ (by omega) (by omega)), ex_fr h6 (hne _ (by omega) (by omega)), fun k hk => Img_fr (fun j a b => hne j (by omega) (by omega)) hc rfl (fun _ _ _ => rfl) (h7 k hk)⟩
  obtain ⟨rz, tb, P0, C0, q⟩ := h4
  exact ⟨rz, tb, P0, C0, makAt_fr (fun j a b => hne j (by omega) (by omega)) q⟩
/-- the state after c calls -/
def Sd (G : nG) (ad : Nat → Nat) (x y c : Nat) (w : Nat → va_E) : Prop := ∃ M kp, Cls G ad w x c M kp ∧ Mod G ad w y M kp ∧ (∀ k, kp k ≤ 1) ∧ LInv c M
def Hi (M M' : Nat → Nat → Nat) : Prop := ∀ tag q, sect tag ≤ q → M' tag q = M tag q
theorem Hi_r (M : Nat → Nat → Nat) : Hi M M := fun _ _ _ => rfl
theorem Hi_up {M M' : Nat → Nat → Nat} {t : Nat} {r : Nat → Nat} (h : Hi M M') (hr : ∀ q, sect t ≤ q → r q = M t q) : Hi M (va_up M' t r) := fun tag q hq => by
  by_cases e : tag = t
  · rw [e, va_up_self]
    exact hr q (by rw [← e]; exact hq)
  · rw [va_up_ne _ _ e]
    exact h tag q hq
theorem Hi_1 {M : Nat → Nat → Nat} {t i v : Nat} (hi : i < sect t) : ∀ q, sect t ≤ q → va_up (M t) i v q = M t q := fun q hq => va_up_ne _ _ (by omega)
theorem Hi_sec {M M' : Nat → Nat → Nat} (h : Hi M M') (k : Nat) : ∀ tag q, q < sect tag → sec (k + 1) M' tag q = sec (k + 1) M tag q := fun tag q hq => h tag _ (by
  have : sect tag * 1 ≤ sect tag * (k + 1) := Nat.mul_le_mul_left _ (by omega)
  omega)
/-- a class's land changes, all else of the class stays -/
theorem Cls_land {G : nG} {ad : Nat → Nat} {w w1 : Nat → va_E} {x c : Nat} {M M' : Nat → Nat → Nat} {kp : Nat → Nat} (hne : ∀ j, x ≤ j → j < x + 219 → ¬ (x + 1 ≤ j ∧ j < x + 51) → w1 j = w j) (hL : LandAt G ad w1 (x + 1) M') (hH : Hi M M') (h : Cls G ad w x c M kp) : Cls G ad w1 x (c + 1) M' kp := by
  obtain ⟨h0, h1, h2, h3, h4, h5, h6, h7⟩ := h
  refine ⟨(hne _ (by omega) (by omega) (by omega)).trans h0, hL, (hne _ (by omega) (by omega) (by omega)).trans h2, (hne _ (by omega) (by omega) (by omega)).trans h3, ?_, ex_fr h5 (hne _ (by omega) (by omega) (by omega)), ex_fr h6 (hne _ (by omega) (by omega) (by omega)), fun k hk => Img_fr (fun j a b => hne j (by omega) (by omega) (by omega)) (Nat.le_succ c) rfl (Hi_sec hH k) (h7 k hk)⟩
  obtain ⟨rz, tb, P0, C0, q⟩ := h4
  exact ⟨rz, tb, P0, C0, makAt_fr (fun j a b => hne j (by omega) (by omega) (by omega)) q⟩
/-- one call of the class, and the same call of the model: one answer, and the state goes on -/
def StpI (l : Launch) (G : nG) (N : Nat) (ad : Nat → Nat) (x y c : Nat) (w : Nat → va_E) (yA yB : MethodName) (wsA wsB : List Cond) (rmA rmB : Room) (args : List Value) : Prop :=
  ∃ (R : Int) (P1 : (Nat → va_E) → Prop), (∀ sz, Met l yA wsA rmA (va_Pc (.ref (ad x) :: args) (nB G N ad w sz)) (nPi G N ad sz (fun r u => r = R ∧ P1 u)) 0 0 (nA N ad sz)) ∧ ∀ u, P1 u → (∃ fs, u y = .inr (7, fs)) ∧ ∀ sz, Met l yB wsB rmB (va_Pc (.ref (ad y) :: args) (nB G N ad u sz)) (nPi G N ad sz (fun r v => r = R ∧ Sd G ad x y (c + 1) v)) 0 0 (nA N ad sz)
def StpL (l : Launch) (G : nG) (N : Nat) (ad : Nat → Nat) (x y c : Nat) (w : Nat → va_E) (yA yB : MethodName) (wsA wsB : List Cond) (rmA rmB : Room) (args : List Value) : Prop :=
  ∃ (R : Int) (P1 : (Nat → va_E) → Prop), (∀ sz, Met l yA wsA rmA (va_Pc (.ref (ad x) :: args) (nB G N ad w sz)) (nPl G N ad sz (fun r u => r = R ∧ P1 u)) 0 0 (nA N ad sz)) ∧ ∀ u, P1 u → (∃ fs, u y = .inr (7, fs)) ∧ ∀ sz, Met l yB wsB rmB (va_Pc (.ref (ad y) :: args) (nB G N ad u sz)) (nPl G N ad sz (fun r v => r = R ∧ Sd G ad x y (c + 1) v)) 0 0 (nA N ad sz)
section MK
variable {l : Launch} {G : nG} {N : Nat} {ad : Nat → Nat} {x y c : Nat} {w : Nat → va_E} {yA yB : MethodName} {wsA wsB : List Cond} {rmA rmB : Room} {args : List Value} {M M' : Nat → Nat → Nat} {kp kp' : Nat → Nat}
theorem stp_mk (R : Int) (M' : Nat → Nat → Nat) (kp' : Nat → Nat) {postA : Int → (Nat → va_E) → Prop} {postB : (Nat → va_E) → Int → (Nat → va_E) → Prop} (hy : y = x + 219) (hM : Mod G ad w y M kp) (hk : ∀ k, kp' k ≤ 1) (hI : LInv (c + 1) M')
    (hA : ∀ sz, Met l yA wsA rmA (va_Pc (.ref (ad x) :: args) (nB G N ad w sz)) (nPi G N ad sz postA) 0 0 (nA N ad sz)) (hA2 : ∀ r u, postA r u → r = R ∧ (∀ j, ¬ (x ≤ j ∧ j < x + 219) → u j = w j) ∧ Cls G ad u x (c + 1) M' kp')
    (hB : ∀ u, Mod G ad u y M kp → ∀ sz, Met l yB wsB rmB (va_Pc (.ref (ad y) :: args) (nB G N ad u sz)) (nPi G N ad sz (postB u)) 0 0 (nA N ad sz)) (hB2 : ∀ u r v, Mod G ad u y M kp → postB u r v → r = R ∧ (∀ j, ¬ (y ≤ j ∧ j < y + 27) → v j = u j) ∧ Mod G ad v y M' kp') : StpI l G N ad x y c w yA yB wsA wsB rmA rmB args := by
  refine ⟨R, fun u => Mod G ad u y M kp ∧ Cls G ad u x (c + 1) M' kp', fun sz => wr_i (hA sz) (fun r u hq => ?_), fun u hu => ⟨⟨_, hu.1.1⟩, fun sz => wr_i (hB u hu.1 sz) (fun r v hq => ?_)⟩⟩
  · obtain ⟨h1, h2, h3⟩ := hA2 r u hq
    exact ⟨h1, Mod_fr (fun j a b => h2 j (by omega)) hM, h3⟩
  · obtain ⟨h1, h2, h3⟩ := hB2 u r v hu.1 hq
    exact ⟨h1, M', kp', Cls_fr (fun j a b => h2 j (by omega)) (Nat.le_refl _) hu.2, h3, hk, hI⟩
theorem stpL_mk (R : Int) (M' : Nat → Nat → Nat) (kp' : Nat → Nat) {postA : Int → (Nat → va_E) → Prop} {postB : (Nat → va_E) → Int → (Nat → va_E) → Prop} (hy : y = x + 219) (hM : Mod G ad w y M kp) (hk : ∀ k, kp' k ≤ 1) (hI : LInv (c + 1) M')
    (hA : ∀ sz, Met l yA wsA rmA (va_Pc (.ref (ad x) :: args) (nB G N ad w sz)) (nPl G N ad sz postA) 0 0 (nA N ad sz)) (hA2 : ∀ r u, postA r u → r = R ∧ (∀ j, ¬ (x ≤ j ∧ j < x + 219) → u j = w j) ∧ Cls G ad u x (c + 1) M' kp')
    (hB : ∀ u, Mod G ad u y M kp → ∀ sz, Met l yB wsB rmB (va_Pc (.ref (ad y) :: args) (nB G N ad u sz)) (nPl G N ad sz (postB u)) 0 0 (nA N ad sz)) (hB2 : ∀ u r v, Mod G ad u y M kp → postB u r v → r = R ∧ (∀ j, ¬ (y ≤ j ∧ j < y + 27) → v j = u j) ∧ Mod G ad v y M' kp') : StpL l G N ad x y c w yA yB wsA wsB rmA rmB args := by
  refine ⟨R, fun u => Mod G ad u y M kp ∧ Cls G ad u x (c + 1) M' kp', fun sz => wr_l (hA sz) (fun r u hq => ?_), fun u hu => ⟨⟨_, hu.1.1⟩, fun sz => wr_l (hB u hu.1 sz) (fun r v hq => ?_)⟩⟩
  · obtain ⟨h1, h2, h3⟩ := hA2 r u hq
    exact ⟨h1, Mod_fr (fun j a b => h2 j (by omega)) hM, h3⟩
  · obtain ⟨h1, h2, h3⟩ := hB2 u r v hu.1 hq
    exact ⟨h1, M', kp', Cls_fr (fun j a b => h2 j (by omega)) (Nat.le_refl _) hu.2, h3, hk, hI⟩
/-- the class only reads: the answer R; the model answers R and may write to its own scratch -/
theorem stp_rd (R : Int) {postB : (Nat → va_E) → Int → (Nat → va_E) → Prop} (hy : y = x + 219) (hC : Cls G ad w x c M kp) (hM : Mod G ad w y M kp) (hk : ∀ k, kp k ≤ 1) (hI : LInv c M)
    (hA : ∀ sz, Met l yA wsA rmA (va_Pc (.ref (ad x) :: args) (nB G N ad w sz)) (nRd (.int (iI R))) 0 0 (fun _ => False))
    (hB : ∀ u, Mod G ad u y M kp → ∀ sz, Met l yB wsB rmB (va_Pc (.ref (ad y) :: args) (nB G N ad u sz)) (nPi G N ad sz (postB u)) 0 0 (nA N ad sz)) (hB2 : ∀ u r v, Mod G ad u y M kp → postB u r v → r = R ∧ (∀ j, ¬ (y ≤ j ∧ j < y + 27) → v j = u j) ∧ Mod G ad v y M kp) : StpI l G N ad x y c w yA yB wsA wsB rmA rmB args :=
  stp_mk R M kp hy hM hk (LInv_mono (Nat.le_succ c) hI) (postA := fun r u => r = R ∧ u = w) (fun sz => rd_i (hA sz) ⟨rfl, rfl⟩) (fun r u hq => ⟨hq.1, fun j _ => by rw [hq.2], by rw [hq.2]; exact Cls_fr (fun _ _ _ => rfl) (Nat.le_succ c) hC⟩) hB hB2
theorem stpL_rd (R : Int) {postB : (Nat → va_E) → Int → (Nat → va_E) → Prop} (hy : y = x + 219) (hC : Cls G ad w x c M kp) (hM : Mod G ad w y M kp) (hk : ∀ k, kp k ≤ 1) (hI : LInv c M)
    (hA : ∀ sz, Met l yA wsA rmA (va_Pc (.ref (ad x) :: args) (nB G N ad w sz)) (nRd (.long (jI R))) 0 0 (fun _ => False))
    (hB : ∀ u, Mod G ad u y M kp → ∀ sz, Met l yB wsB rmB (va_Pc (.ref (ad y) :: args) (nB G N ad u sz)) (nPl G N ad sz (postB u)) 0 0 (nA N ad sz)) (hB2 : ∀ u r v, Mod G ad u y M kp → postB u r v → r = R ∧ (∀ j, ¬ (y ≤ j ∧ j < y + 27) → v j = u j) ∧ Mod G ad v y M kp) : StpL l G N ad x y c w yA yB wsA wsB rmA rmB args :=
  stpL_mk R M kp hy hM hk (LInv_mono (Nat.le_succ c) hI) (postA := fun r u => r = R ∧ u = w) (fun sz => rd_l (hA sz) ⟨rfl, rfl⟩) (fun r u hq => ⟨hq.1, fun j _ => by rw [hq.2], by rw [hq.2]; exact Cls_fr (fun _ _ _ => rfl) (Nat.le_succ c) hC⟩) hB hB2
/-- the model writes nothing -/
theorem mod_eq {R r : Int} {u v : Nat → va_E} (hu : Mod G ad u y M kp) (h : (∀ j, v j = u j) ∧ r = R) : r = R ∧ (∀ j, ¬ (y ≤ j ∧ j < y + 27) → v j = u j) ∧ Mod G ad v y M kp := ⟨h.2, fun j _ => h.1 j, Mod_fr (fun j _ _ => h.1 j) hu⟩
end MK
