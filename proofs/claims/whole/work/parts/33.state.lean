
/-! ===== the state: a land by its row of numbers D (tag, place), in the model's layout ===== -/
def sect : Nat → Nat
  | 1 => 2
  | 2 => 16
  | 3 => 2
  | 4 => 1
  | 5 => 1
  | 6 => 14
  | 7 => 14
  | 8 => 1
  | 9 => 1
  | 10 => 4
  | 11 => 4
  | 12 => 4
  | 13 => 4
  | 14 => 64
  | 15 => 32
  | 16 => 8
  | 17 => 320
  | _ => 0
def clip (n : Nat) (f : Nat → Nat) : Nat → Nat := fun q => if q < n then f q else 0
theorem clip_at {n : Nat} {f : Nat → Nat} {q : Nat} (h : q < n) : clip n f q = f q := if_pos h
theorem clip_up {n : Nat} {f : Nat → Nat} {k v : Nat} (h : k < n) : va_up (clip n f) k v = clip n (va_up f k v) := by
  funext q
  unfold va_up clip
  dsimp only
  by_cases e : q = k
  · rw [if_pos e, if_pos (by omega), if_pos e]
  · rw [if_neg e, if_neg e]
theorem clip_le {n B : Nat} {f : Nat → Nat} (h : ∀ q, q < n → f q ≤ B) : ∀ q, clip n f q ≤ B := fun q => by
  unfold clip
  split
  · exact h q (by assumption)
  · exact Nat.zero_le _
theorem clip_c {n : Nat} {f g : Nat → Nat} (h : ∀ q, q < n → f q = g q) : clip n f = clip n g := by
  funext q
  unfold clip
  by_cases e : q < n
  · rw [if_pos e, if_pos e, h q e]
  · rw [if_neg e, if_neg e]
def lsF (val : Nat → Nat) : Nat → (Nat → Int)
  | 0 => va_up (fillF (fun _ => 0) (-1) 2001) 0 0
  | n + 1 => imp (lsF val n) (val n) (2001 - val n)
def dV (D : Nat → Nat → Nat) (sy : Nat) : Nat → Nat := clip 8 (fun q => D 2 (8 * sy + q))
def dF (D : Nat → Nat → Nat) (sy : Nat) : Nat → Nat := srt (dV D sy) (fun _ => 0) (D 1 sy)
def dL (D : Nat → Nat → Nat) (sy : Nat) : Nat → Int := lsF (dV D sy) (D 1 sy)
def dH (D : Nat → Nat → Nat) (t s1 : Nat) : Nat → Nat := clip 8 (fun q => D 14 (16 * t + 8 * s1 + q))
def dX (D : Nat → Nat → Nat) (t c : Nat) : Nat → Nat := clip 20 (fun q => D 17 (80 * t + 4 * q + c))
def dTl (D : Nat → Nat → Nat) (t : Nat) : Nat → Nat → Nat := fun i q => match i with
  | 0 => D 10 t
  | 1 => D 11 t
  | 2 => D 12 t / D 3 1
  | 3 => D 13 t
  | 4 => dH D t 0 q
  | 5 => dH D t 1 q
  | 6 => clip 8 (fun q => D 15 (8 * t + q)) q
  | 7 => dX D t 0 q
  | 8 => dX D t 1 q
  | 9 => dX D t 2 q
  | _ => dX D t 3 q
def coinAt (G : nG) (ad : Nat → Nat) (w : Nat → va_E) (i cnt : Nat) (val fal : Nat → Nat) (lst : Nat → Int) : Prop := w i = .inr (1, [.int (iI ((cnt : Nat) : Int)), .ref (ad (i + 1)), .ref (ad (i + 2)), .ref (ad (i + 3))]) ∧ w (i + 1) = aI G 8 (fun q => (val q : Int)) ∧ w (i + 2) = aI G 8 (fun q => (fal q : Int)) ∧ w (i + 3) = aI G 2001 lst
def goodAt (G : nG) (ad : Nat → Nat) (w : Nat → va_E) (i gn : Nat) (gp gt : Nat → Nat) : Prop := w i = .inr (3, [.int (iI ((gn : Nat) : Int)), .ref (ad (i + 1)), .ref (ad (i + 2))]) ∧ w (i + 1) = aI G 14 (fun q => (gp q : Int)) ∧ w (i + 2) = aI G 14 (fun q => (gt q : Int))
def LandAt (G : nG) (ad : Nat → Nat) (w : Nat → va_E) (b : Nat) (D : Nat → Nat → Nat) : Prop :=
  w b = .inr (4, [.ref (ad (b + 1)), .ref (ad (b + 5)), .ref (ad (b + 9)), .ref (ad (b + 12)), .ref (ad (b + 13)), .int (iI ((D 9 0 : Nat) : Int)), .int (iI ((D 3 0 : Nat) : Int)), .int (iI ((D 3 1 : Nat) : Int)), .int (iI ((D 8 0 : Nat) : Int))]) ∧
  (∀ k, k < 2 → coinAt G ad w (b + 1 + 4 * k) (D 1 k) (dV D k) (dF D k) (dL D k)) ∧ goodAt G ad w (b + 9) (D 5 0) (clip 14 (D 6)) (clip 14 (D 7)) ∧
  w (b + 12) = aR G 3 4 (fun k => some (ad (b + 14 + 9 * k))) ∧ w (b + 13) = aI G 8 (fun q => (clip 8 (D 16) q : Int)) ∧ ∀ t, t < 4 → tillAt G ad w (b + 14 + 9 * t) (dTl D t)
theorem coinAt_fr {G : nG} {ad : Nat → Nat} {w w1 : Nat → va_E} {i cnt : Nat} {val fal : Nat → Nat} {lst : Nat → Int} (hne : ∀ j, i ≤ j → j < i + 4 → w1 j = w j) (h : coinAt G ad w i cnt val fal lst) : coinAt G ad w1 i cnt val fal lst := by
  obtain ⟨h0, h1, h2, h3⟩ := h
  exact ⟨(hne _ (by omega) (by omega)).trans h0, (hne _ (by omega) (by omega)).trans h1, (hne _ (by omega) (by omega)).trans h2, (hne _ (by omega) (by omega)).trans h3⟩
theorem goodAt_fr {G : nG} {ad : Nat → Nat} {w w1 : Nat → va_E} {i gn : Nat} {gp gt : Nat → Nat} (hne : ∀ j, i ≤ j → j < i + 3 → w1 j = w j) (h : goodAt G ad w i gn gp gt) : goodAt G ad w1 i gn gp gt := by
  obtain ⟨h0, h1, h2⟩ := h
  exact ⟨(hne _ (by omega) (by omega)).trans h0, (hne _ (by omega) (by omega)).trans h1, (hne _ (by omega) (by omega)).trans h2⟩
theorem LandAt_fr {G : nG} {ad : Nat → Nat} {w w1 : Nat → va_E} {b : Nat} {D : Nat → Nat → Nat} (hne : ∀ j, b ≤ j → j < b + 50 → w1 j = w j) (h : LandAt G ad w b D) : LandAt G ad w1 b D := by
  obtain ⟨h0, h1, h2, h3, h4, h5⟩ := h
  exact ⟨(hne _ (by omega) (by omega)).trans h0, fun k hk => coinAt_fr (fun j h6 h7 => hne j (by omega) (by omega)) (h1 k hk), goodAt_fr (fun j h6 h7 => hne j (by omega) (by omega)) h2, (hne _ (by omega) (by omega)).trans h3, (hne _ (by omega) (by omega)).trans h4, fun t ht => tillAt_fr (fun j h6 h7 => hne j (by omega) (by omega)) (h5 t ht)⟩
/-- two rows of numbers that a land can't tell apart -/
def Agr (D E : Nat → Nat → Nat) : Prop := ∀ tag q, q < sect tag → D tag q = E tag q
theorem dV_c {D E : Nat → Nat → Nat} (h : Agr D E) {sy : Nat} (hs : sy < 2) : dV D sy = dV E sy := clip_c fun q hq => h 2 _ (by show _ < 16; omega)
theorem dTl_c {D E : Nat → Nat → Nat} (h : Agr D E) {t : Nat} (ht : t < 4) : dTl D t = dTl E t := by
  have hH : ∀ s1, s1 < 2 → dH D t s1 = dH E t s1 := fun s1 hs => clip_c fun q hq => h 14 _ (by show _ < 64; omega)
  have hX : ∀ c, c < 4 → dX D t c = dX E t c := fun c hc => clip_c fun q hq => h 17 _ (by show _ < 320; omega)
  funext i q
  match i with
  | 0 => exact h 10 t (by show _ < 4; omega)
  | 1 => exact h 11 t (by show _ < 4; omega)
  | 2 =>
    show D 12 t / D 3 1 = E 12 t / E 3 1
    rw [h 12 t (by show _ < 4; omega), h 3 1 (by show _ < 2; omega)]
  | 3 => exact h 13 t (by show _ < 4; omega)
  | 4 => exact congrFun (hH 0 (by omega)) q
  | 5 => exact congrFun (hH 1 (by omega)) q
  | 6 => exact congrFun (clip_c fun q hq => h 15 _ (by show _ < 32; omega)) q
  | 7 => exact congrFun (hX 0 (by omega)) q
  | 8 => exact congrFun (hX 1 (by omega)) q
  | 9 => exact congrFun (hX 2 (by omega)) q
  | k + 10 => exact congrFun (hX 3 (by omega)) q
theorem LandAt_c {G : nG} {ad : Nat → Nat} {w : Nat → va_E} {b : Nat} {D E : Nat → Nat → Nat} (h : Agr D E) (hl : LandAt G ad w b D) : LandAt G ad w b E := by
  obtain ⟨h0, h1, h2, h3, h4, h5⟩ := hl
  have hc : ∀ k, k < 2 → D 1 k = E 1 k := fun k hk => h 1 k hk
  refine ⟨?_, fun k hk => ?_, ?_, h3, ?_, fun t ht => ?_⟩
  · rw [← h 9 0 (by decide), ← h 3 0 (by decide), ← h 3 1 (by decide), ← h 8 0 (by decide)]
    exact h0
  · have h6 := h1 k hk
    unfold dF dL at h6 ⊢
    rw [← hc k hk, ← dV_c h hk]
    exact h6
  · rw [← h 5 0 (by decide), ← clip_c (n := 14) (f := D 6) (g := E 6) (fun q hq => h 6 q hq), ← clip_c (n := 14) (f := D 7) (g := E 7) (fun q hq => h 7 q hq)]
    exact h2
  · rw [← clip_c (n := 8) (f := D 16) (g := E 16) (fun q hq => h 16 q hq)]
    exact h4
  · rw [← dTl_c h ht]
    exact h5 t ht
theorem wr_v {l : Launch} {G : nG} {N : Nat} {ad : Nat → Nat} {w : Nat → va_E} {sz : Nat} {y : MethodName} {ws : List Cond} {rm : Room} {av : List Value} {post post' : (Nat → va_E) → Prop} (h : Met l y ws rm (va_Pc av (nB G N ad w sz)) (nPv G N ad sz post) 0 0 (nA N ad sz)) (hp : ∀ u, post u → post' u) : Met l y ws rm (va_Pc av (nB G N ad w sz)) (nPv G N ad sz post') 0 0 (nA N ad sz) := met_imp h (fun a st o t hP hq => ⟨hq.1.elim fun u hu => ⟨u, hu.1, hp _ hu.2.1, hu.2.2⟩, hq.2⟩) (fun _ h => h)

theorem c_X4_copyL {l : Launch} {G : nG} {N : Nat} {ad : Nat → Nat} {w : Nat → va_E} {sz : Nat} (i j0 : Nat) (D1 D2 : Nat → Nat → Nat) (hN : i + 49 < N ∧ j0 + 49 < N) (hd : i + 49 < j0 ∨ j0 + 49 < i) (h1 : LandAt G ad w i D1) (h2 : LandAt G ad w j0 D2) : Met l yX4_copyFrom wsX4_copyFrom ({ frames := 3, cells := 0, slots := 0, locals := 60 }) (va_Pc [.ref (ad i), .ref (ad j0)] (nB G N ad w sz)) (nPv G N ad sz (fun u => (∀ j, ¬ (i ≤ j ∧ j < i + 50) → u j = w j) ∧ LandAt G ad u i D2)) 0 0 (nA N ad sz) := by
  obtain ⟨a0, a1, a2, a3, a4, a5⟩ := h1
  obtain ⟨b0, b1, b2, b3, b4, b5⟩ := h2
  have p0 : coinAt G ad w (i + 1) (D1 1 0) (dV D1 0) (dF D1 0) (dL D1 0) := a1 0 (by omega)
  have p1 : coinAt G ad w (i + 5) (D1 1 1) (dV D1 1) (dF D1 1) (dL D1 1) := a1 1 (by omega)
  have q0 : coinAt G ad w (j0 + 1) (D2 1 0) (dV D2 0) (dF D2 0) (dL D2 0) := b1 0 (by omega)
  have q1 : coinAt G ad w (j0 + 5) (D2 1 1) (dV D2 1) (dF D2 1) (dL D2 1) := b1 1 (by omega)
  refine wr_v (c_X4_copyFrom i j0 _ _ _ _ _ _ _ _ _ _ _ _ _ _ _ _ _ _ _ _ _ _ _ _ _ _ _ _ _ _ _ _ (dTl D1) (dTl D2) hN hd a0 p0.1 p0.2.1 p0.2.2.1 p0.2.2.2 p1.1 p1.2.1 p1.2.2.1 p1.2.2.2 a2.1 a2.2.1 a2.2.2 a4 b0 q0.1 q0.2.1 q0.2.2.1 q0.2.2.2 q1.1 q1.2.1 q1.2.2.1 q1.2.2.2 b2.1 b2.2.1 b2.2.2 b4 a3 b3 a5 b5) (fun u hu => ?_)
  obtain ⟨c0, c1, c2, c3, c4, c5, c6, c7, c8, c9, d0, d1, d2, d3, d4, d5⟩ := hu
  refine ⟨c0, c1, fun k hk => ?_, ⟨d0, d1, d2⟩, d4, d3, d5⟩
  rcases (show k = 0 ∨ k = 1 by omega) with rfl | rfl
  · exact ⟨c2, c3, c4, c5⟩
  · exact ⟨c6, c7, c8, c9⟩
set_option maxHeartbeats 4000000 in
set_option maxRecDepth 100000 in
theorem c_X6_image_no {l : Launch} {G : nG} {N : Nat} {ad : Nat → Nat} {w : Nat → va_E} {sz : Nat} (x b : Nat) (z : Int) (hN : x + 218 < N) (hxb : b = x + 1) (hz : -2147483648 ≤ z ∧ z < 2147483648) (hno : ¬ (0 ≤ z ∧ z ≤ 2)) (f_x : w x = .inr (6, [.ref (ad b), .ref (ad (x + 51)), .ref (ad (x + 52)), .ref (ad (x + 53)), .ref (ad (x + 67)), .ref (ad (x + 68))])) : Met l yX6_image wsX6_image ({ frames := 4, cells := 0, slots := 0, locals := 82 }) (va_Pc [.ref (ad x), .int (iI z)] (nB G N ad w sz)) (nRd (.int (iI (bI False)))) 0 0 (fun _ => False) := by
  refine n_ent (cc := cX6_image) (maxL := 2) (ret := (some .boolean)) (by decide) rfl (Nat.le_of_ble_eq_true rfl) ?_
  intro p e s m below meth cd hx hb hr hml hlocks hts hown hnm hsz hP hK hI Q hQ ls hl
  have hown : s.vm.findClass RX6 = some m.cls := hown
  have hl : lv_has ls 2 [(0, .ref (ad x)), (1, .int (iI z))] := hl
  refine n_iconst hx hb dX6_image_0 ?_
  refine lv_iload_n hx hb dX6_image_1 rfl (lv_at hl 1 rfl) ?_
  refine n_iconst hx hb dX6_image_2 ?_
  refine n_rdF (va_runS (As := [.int (iI 0), .int (iI z), .int (iI 2)]) (rest := []) ⟨hx, hb, hml, hown, hts⟩ (c_X6_within 0 z 2 (by omega) (by omega) (by omega)) (va_cwS 3 hts (nT_S wl_X6_49 wt_X6_within wn_X6 wc_X6_within) rfl rfl rfl (by decide +kernel) ⟨Nat.le_of_ble_eq_true rfl, Nat.le_of_ble_eq_true rfl⟩) preEq rfl rfl hl.1 rfl (lv_room (Nat.le_of_ble_eq_true rfl)) dX6_image_3 ⟨Nat.zero_le _, Nat.zero_le _⟩) ?_
  refine n_if_neB (tgt := 11) hx hb dX6_image_6 (by decide) (fun hc6 => ?_) (fun hc6 => ?_)
  · skip
    exact absurd hc6 (by omega)
  · skip
    refine n_iconst hx hb dX6_image_9 ?_
    exact n_zretR hQ hx hb hr hlocks (bI_f id).symm dX6_image_10
set_option maxHeartbeats 4000000 in
set_option maxRecDepth 100000 in
theorem c_X6_image_yes {l : Launch} {G : nG} {N : Nat} {ad : Nat → Nat} {w : Nat → va_E} {sz : Nat} (x b : Nat) (D1 D2 : Nat → Nat → Nat) (kp : Nat → Nat) (k0 : Nat) (hN : x + 218 < N) (hxb : b = x + 1) (hk : k0 < 3) (f_x : w x = .inr (6, [.ref (ad b), .ref (ad (x + 51)), .ref (ad (x + 52)), .ref (ad (x + 53)), .ref (ad (x + 67)), .ref (ad (x + 68))])) (f_im : w (x + 51) = aR G 4 3 (fun k => some (ad (x + 69 + 50 * k)))) (f_kp : w (x + 52) = aZ G 3 (fun q => (kp q : Int))) (f_ln : LandAt G ad w b D2) (f_li : LandAt G ad w (x + 69 + 50 * k0) D1) : Met l yX6_image wsX6_image ({ frames := 4, cells := 0, slots := 0, locals := 82 }) (va_Pc [.ref (ad x), .int (iI ((k0 : Nat) : Int))] (nB G N ad w sz)) (nPi G N ad sz (fun r u => (∀ j, ¬ (x + 69 + 50 * k0 ≤ j ∧ j < x + 69 + 50 * k0 + 50) → j ≠ (x + 52) → u j = w j) ∧ (r = 1) ∧ (LandAt G ad u (x + 69 + 50 * k0) D2) ∧ (u (x + 52) = aZ G 3 (fun q => ((va_up kp k0 1 q : Nat) : Int))))) 0 0 (nA N ad sz) := by
  refine n_ent (cc := cX6_image) (maxL := 2) (ret := (some .boolean)) (by decide) rfl (Nat.le_of_ble_eq_true rfl) ?_
  intro p e s m below meth cd hx hb hr hml hlocks hts hown hnm hsz hP hK hI Q hQ ls hl
  have hown : s.vm.findClass RX6 = some m.cls := hown
  subst hsz
  have hJ := hI.J s.heap.size
  have hS : va_S (nA N ad s.heap.size) s.heap s.heap [] := va_S.rf
  have hfr : ∀ j, ¬ (x + 69 + 50 * k0 ≤ j ∧ j < x + 69 + 50 * k0 + 50) → j ≠ (x + 52) → w j = w j := fun _ _ _ => rfl
  have hl : lv_has ls 2 [(0, .ref (ad x)), (1, .int (iI ((k0 : Nat) : Int)))] := hl
  refine n_iconst hx hb dX6_image_0 ?_
  refine lv_iload_n hx hb dX6_image_1 rfl (lv_at hl 1 rfl) ?_
  refine n_iconst hx hb dX6_image_2 ?_
  refine n_rdF (va_runS (As := [.int (iI 0), .int (iI ((k0 : Nat) : Int)), .int (iI 2)]) (rest := []) ⟨hx, hb, hml, hown, hts⟩ (c_X6_within 0 ((k0 : Nat) : Int) 2 (by omega) (by omega) (by omega)) (va_cwS 3 hts (nT_S wl_X6_49 wt_X6_within wn_X6 wc_X6_within) rfl rfl rfl (by decide +kernel) ⟨Nat.le_of_ble_eq_true rfl, Nat.le_of_ble_eq_true rfl⟩) preEq rfl rfl hl.1 rfl (lv_room (Nat.le_of_ble_eq_true rfl)) dX6_image_3 ⟨Nat.zero_le _, Nat.zero_le _⟩) ?_
  refine n_if_neB (tgt := 11) hx hb dX6_image_6 (by decide) (fun hc6 => ?_) (fun hc6 => ?_)
  · skip
    refine lv_aload_n hx hb dX6_image_11 rfl (lv_at hl 0 rfl) ?_
    refine n_get hx hb hts u_X6 hown hK hP (by omega) f_x rfl 1 (by decide) (nT_m wf_X6_16) rfl dX6_image_12 ?_
    refine lv_iload_n hx hb dX6_image_15 rfl (lv_at hl 1 rfl) ?_
    refine n_aald hx hb hK hP (.object "NewCoins$Land") k0 (by omega) f_im rfl rfl (by omega) (by omega) (by decide) rfl dX6_image_16 ?_
    refine lv_aload_n hx hb dX6_image_17 rfl (lv_at hl 0 rfl) ?_
    refine n_get hx hb hts u_X6 hown hK hP (by omega) f_x rfl 0 (by decide) (nT_m wf_X6_10) rfl dX6_image_18 ?_
    refine n_cV (va_runV (As := [.ref (ad b)]) (rest := []) ⟨hx, hb, hml, hown, hts⟩ (c_X4_copyL (x + 69 + 50 * k0) b D1 D2 (by omega) (by omega) f_li f_ln) (cwV 1 hts (nT_V wl_X6_222 wi_X4_copyFrom ws_X4_copyFrom wn_X4 wc_X4_copyFrom) rfl rfl rfl (by decide +kernel) ⟨Nat.le_of_ble_eq_true rfl, Nat.le_of_ble_eq_true rfl⟩) (nB.preV hK hI hP (by omega) f_li.1 rfl rfl) rfl rfl hl.1 rfl (lv_room (Nat.le_of_ble_eq_true rfl)) dX6_image_21 ⟨Nat.zero_le _, Nat.zero_le _⟩) hS (fun w1 H locs hq3 hP hS => ?_)
    obtain ⟨hne4, hp_li⟩ := hq3
    have f_x := (hne4 x (by omega)).trans f_x
    have f_im := (hne4 (x + 51) (by omega)).trans f_im
    have f_kp := (hne4 (x + 52) (by omega)).trans f_kp
    have f_ln : LandAt G ad w1 b D2 := (LandAt_fr (fun j h1 h2 => hne4 j (by omega)) f_ln)
    have f_li : LandAt G ad w1 (x + 69 + 50 * k0) D2 := hp_li
    have hfr : ∀ j, ¬ (x + 69 + 50 * k0 ≤ j ∧ j < x + 69 + 50 * k0 + 50) → j ≠ (x + 52) → w1 j = w j := fun j a0 a1 => (hne4 j (by omega)).trans (hfr j a0 a1)
    refine lv_aload_n hx hb dX6_image_24 rfl (lv_at hl 0 rfl) ?_
    refine n_get hx hb hts u_X6 hown hK hP (by omega) f_x rfl 2 (by decide) (nT_m wf_X6_20) rfl dX6_image_25 ?_
    refine lv_iload_n hx hb dX6_image_28 rfl (lv_at hl 1 rfl) ?_
    refine n_iconst hx hb dX6_image_29 ?_
    refine n_zast hx hb hK hJ hP hS k0 (by omega) f_kp (by omega) (by omega) (by decide) (by decide) dX6_image_30 (fun w5 H locs f_kp hne6 hP hS => ?_)
    have f_x := (hne6 x (by omega)).trans f_x
    have f_im := (hne6 (x + 51) (by omega)).trans f_im
    have f_ln : LandAt G ad w5 b D2 := (LandAt_fr (fun j h1 h2 => hne6 j (by omega)) f_ln)
    have f_li : LandAt G ad w5 (x + 69 + 50 * k0) D2 := (LandAt_fr (fun j h1 h2 => hne6 j (by omega)) f_li)
    have hfr : ∀ j, ¬ (x + 69 + 50 * k0 ≤ j ∧ j < x + 69 + 50 * k0 + 50) → j ≠ (x + 52) → w5 j = w j := fun j a0 a1 => (hne6 j (by omega)).trans (hfr j a0 a1)
    refine n_iconst hx hb dX6_image_31 ?_
    refine n_zretP (t := True) hQ hx hb hr hlocks rfl hP hS dX6_image_32 ?_
    exact ⟨hfr, rfl, f_li, f_kp.trans (congrArg (aZ G 3) (upN kp k0 1))⟩
  · skip
    omega
set_option maxHeartbeats 4000000 in
set_option maxRecDepth 100000 in
theorem c_X6_again_no {l : Launch} {G : nG} {N : Nat} {ad : Nat → Nat} {w : Nat → va_E} {sz : Nat} (x b : Nat) (kp : Nat → Nat) (z : Int) (hN : x + 218 < N) (hxb : b = x + 1) (hz : -2147483648 ≤ z ∧ z < 2147483648) (hkp : ∀ k, kp k ≤ 1) (hno : ¬ ((0 ≤ z ∧ z ≤ 2) ∧ kp z.toNat = 1)) (f_x : w x = .inr (6, [.ref (ad b), .ref (ad (x + 51)), .ref (ad (x + 52)), .ref (ad (x + 53)), .ref (ad (x + 67)), .ref (ad (x + 68))])) (f_kp : w (x + 52) = aZ G 3 (fun q => (kp q : Int))) : Met l yX6_again wsX6_again ({ frames := 4, cells := 0, slots := 0, locals := 82 }) (va_Pc [.ref (ad x), .int (iI z)] (nB G N ad w sz)) (nRd (.int (iI (bI False)))) 0 0 (fun _ => False) := by
  refine n_ent (cc := cX6_again) (maxL := 2) (ret := (some .boolean)) (by decide) rfl (Nat.le_of_ble_eq_true rfl) ?_
  intro p e s m below meth cd hx hb hr hml hlocks hts hown hnm hsz hP hK hI Q hQ ls hl
  have hown : s.vm.findClass RX6 = some m.cls := hown
  have hl : lv_has ls 2 [(0, .ref (ad x)), (1, .int (iI z))] := hl
  refine n_iconst hx hb dX6_again_0 ?_
  refine lv_iload_n hx hb dX6_again_1 rfl (lv_at hl 1 rfl) ?_
  refine n_iconst hx hb dX6_again_2 ?_
  refine n_rdF (va_runS (As := [.int (iI 0), .int (iI z), .int (iI 2)]) (rest := []) ⟨hx, hb, hml, hown, hts⟩ (c_X6_within 0 z 2 (by omega) (by omega) (by omega)) (va_cwS 3 hts (nT_S wl_X6_49 wt_X6_within wn_X6 wc_X6_within) rfl rfl rfl (by decide +kernel) ⟨Nat.le_of_ble_eq_true rfl, Nat.le_of_ble_eq_true rfl⟩) preEq rfl rfl hl.1 rfl (lv_room (Nat.le_of_ble_eq_true rfl)) dX6_again_3 ⟨Nat.zero_le _, Nat.zero_le _⟩) ?_
  refine n_if_eqB (tgt := 18) hx hb dX6_again_6 (by decide) (fun hc6 => ?_) (fun hc6 => ?_)
  · skip
    refine n_iconst hx hb dX6_again_18 ?_
    exact n_zretR hQ hx hb hr hlocks (bI_f id).symm dX6_again_19
  · skip
    refine lv_aload_n hx hb dX6_again_9 rfl (lv_at hl 0 rfl) ?_
    refine n_get hx hb hts u_X6 hown hK hP (by omega) f_x rfl 2 (by decide) (nT_m wf_X6_20) rfl dX6_again_10 ?_
    refine lv_iload_n hx hb dX6_again_13 rfl (lv_at hl 1 rfl) ?_
    refine n_zald hx hb hK hP z.toNat (by omega) f_kp (by omega) (by omega) (by decide) dX6_again_14 ?_
    have ho1 := hkp z.toNat
    refine n_if_ne (tgt := 20) hx hb dX6_again_15 (by decide) (by omega) (fun hc15 => ?_) (fun hc15 => ?_)
    · skip
      omega
    · skip
      refine n_iconst hx hb dX6_again_18 ?_
      exact n_zretR hQ hx hb hr hlocks (bI_f id).symm dX6_again_19
set_option maxHeartbeats 4000000 in
set_option maxRecDepth 100000 in
theorem c_X6_again_yes {l : Launch} {G : nG} {N : Nat} {ad : Nat → Nat} {w : Nat → va_E} {sz : Nat} (x b : Nat) (D1 D2 : Nat → Nat → Nat) (kp : Nat → Nat) (k0 : Nat) (hN : x + 218 < N) (hxb : b = x + 1) (hk : k0 < 3) (hkp : ∀ k, kp k ≤ 1) (hkk : kp k0 = 1) (f_x : w x = .inr (6, [.ref (ad b), .ref (ad (x + 51)), .ref (ad (x + 52)), .ref (ad (x + 53)), .ref (ad (x + 67)), .ref (ad (x + 68))])) (f_im : w (x + 51) = aR G 4 3 (fun k => some (ad (x + 69 + 50 * k)))) (f_kp : w (x + 52) = aZ G 3 (fun q => (kp q : Int))) (f_ln : LandAt G ad w b D2) (f_li : LandAt G ad w (x + 69 + 50 * k0) D1) : Met l yX6_again wsX6_again ({ frames := 4, cells := 0, slots := 0, locals := 82 }) (va_Pc [.ref (ad x), .int (iI ((k0 : Nat) : Int))] (nB G N ad w sz)) (nPi G N ad sz (fun r u => (∀ j, ¬ (b ≤ j ∧ j < b + 50) → u j = w j) ∧ (r = 1) ∧ (LandAt G ad u b D1))) 0 0 (nA N ad sz) := by
  refine n_ent (cc := cX6_again) (maxL := 2) (ret := (some .boolean)) (by decide) rfl (Nat.le_of_ble_eq_true rfl) ?_
  intro p e s m below meth cd hx hb hr hml hlocks hts hown hnm hsz hP hK hI Q hQ ls hl
  have hown : s.vm.findClass RX6 = some m.cls := hown
  subst hsz
  have hJ := hI.J s.heap.size
  have hS : va_S (nA N ad s.heap.size) s.heap s.heap [] := va_S.rf
  have hfr : ∀ j, ¬ (b ≤ j ∧ j < b + 50) → w j = w j := fun _ _ => rfl
  have hl : lv_has ls 2 [(0, .ref (ad x)), (1, .int (iI ((k0 : Nat) : Int)))] := hl
  refine n_iconst hx hb dX6_again_0 ?_
  refine lv_iload_n hx hb dX6_again_1 rfl (lv_at hl 1 rfl) ?_
  refine n_iconst hx hb dX6_again_2 ?_
  refine n_rdF (va_runS (As := [.int (iI 0), .int (iI ((k0 : Nat) : Int)), .int (iI 2)]) (rest := []) ⟨hx, hb, hml, hown, hts⟩ (c_X6_within 0 ((k0 : Nat) : Int) 2 (by omega) (by omega) (by omega)) (va_cwS 3 hts (nT_S wl_X6_49 wt_X6_within wn_X6 wc_X6_within) rfl rfl rfl (by decide +kernel) ⟨Nat.le_of_ble_eq_true rfl, Nat.le_of_ble_eq_true rfl⟩) preEq rfl rfl hl.1 rfl (lv_room (Nat.le_of_ble_eq_true rfl)) dX6_again_3 ⟨Nat.zero_le _, Nat.zero_le _⟩) ?_
  refine n_if_eqB (tgt := 18) hx hb dX6_again_6 (by decide) (fun hc6 => ?_) (fun hc6 => ?_)
  · skip
    omega
  · skip
    refine lv_aload_n hx hb dX6_again_9 rfl (lv_at hl 0 rfl) ?_
    refine n_get hx hb hts u_X6 hown hK hP (by omega) f_x rfl 2 (by decide) (nT_m wf_X6_20) rfl dX6_again_10 ?_
    refine lv_iload_n hx hb dX6_again_13 rfl (lv_at hl 1 rfl) ?_
    refine n_zald hx hb hK hP k0 (by omega) f_kp (by omega) (by omega) (by decide) dX6_again_14 ?_
    have ho1 := hkp k0
    refine n_if_ne (tgt := 20) hx hb dX6_again_15 (by decide) (by omega) (fun hc15 => ?_) (fun hc15 => ?_)
    · skip
      refine lv_aload_n hx hb dX6_again_20 rfl (lv_at hl 0 rfl) ?_
      refine n_get hx hb hts u_X6 hown hK hP (by omega) f_x rfl 0 (by decide) (nT_m wf_X6_10) rfl dX6_again_21 ?_
      refine lv_aload_n hx hb dX6_again_24 rfl (lv_at hl 0 rfl) ?_
      refine n_get hx hb hts u_X6 hown hK hP (by omega) f_x rfl 1 (by decide) (nT_m wf_X6_16) rfl dX6_again_25 ?_
      refine lv_iload_n hx hb dX6_again_28 rfl (lv_at hl 1 rfl) ?_
      refine n_aald hx hb hK hP (.object "NewCoins$Land") k0 (by omega) f_im rfl rfl (by omega) (by omega) (by decide) rfl dX6_again_29 ?_
      refine n_cV (va_runV (As := [.ref (ad (x + 69 + 50 * k0))]) (rest := []) ⟨hx, hb, hml, hown, hts⟩ (c_X4_copyL b (x + 69 + 50 * k0) D2 D1 (by omega) (by omega) f_ln f_li) (cwV 1 hts (nT_V wl_X6_222 wi_X4_copyFrom ws_X4_copyFrom wn_X4 wc_X4_copyFrom) rfl rfl rfl (by decide +kernel) ⟨Nat.le_of_ble_eq_true rfl, Nat.le_of_ble_eq_true rfl⟩) (nB.preV hK hI hP (by omega) f_ln.1 rfl rfl) rfl rfl hl.1 rfl (lv_room (Nat.le_of_ble_eq_true rfl)) dX6_again_30 ⟨Nat.zero_le _, Nat.zero_le _⟩) hS (fun w2 H locs hq4 hP hS => ?_)
      obtain ⟨hne5, hp_ln⟩ := hq4
      have f_x := (hne5 x (by omega)).trans f_x
      have f_im := (hne5 (x + 51) (by omega)).trans f_im
      have f_kp := (hne5 (x + 52) (by omega)).trans f_kp
      have f_li : LandAt G ad w2 (x + 69 + 50 * k0) D1 := (LandAt_fr (fun j h1 h2 => hne5 j (by omega)) f_li)
      have f_ln : LandAt G ad w2 b D1 := hp_ln
      have hfr : ∀ j, ¬ (b ≤ j ∧ j < b + 50) → w2 j = w j := fun j a0 => (hne5 j (by omega)).trans (hfr j a0)
      refine n_iconst hx hb dX6_again_33 ?_
      refine n_zretP (t := True) hQ hx hb hr hlocks rfl hP hS dX6_again_34 ?_
      exact ⟨hfr, rfl, f_ln⟩
    · skip
      omega
