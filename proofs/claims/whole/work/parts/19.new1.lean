
theorem met_imp {l : Launch} {y : MethodName} {ws : List Cond} {rm : Room} {Pc : Array Value → State → Prop} {Qc Qd : Array Value → State → Outcome → State → Prop} {mc ms : Nat} {free free' : Addr → Prop} (h : Met l y ws rm Pc Qc mc ms free) (hQ : ∀ a st o t, Pc a st → Qc a st o t → Qd a st o t) (hf : ∀ q, free q → free' q) : Met l y ws rm Pc Qd mc ms free' := fun p e h1 h2 h3 s m args below hf1 hS hP hK => by
  obtain ⟨n, o, a1, a2, a3, hq, L, hF, hL⟩ := h p e h1 h2 h3 s m args below hf1 hS hP hK
  exact ⟨n, o, a1, a2, a3, hQ _ _ _ _ hP hq, L, hF, fun q hq => hf _ (hL q hq)⟩
theorem rd_i {l : Launch} {G : nG} {N : Nat} {ad : Nat → Nat} {w : Nat → va_E} {sz : Nat} {y : MethodName} {ws : List Cond} {rm : Room} {av : List Value} {z : Int} {post : Int → (Nat → va_E) → Prop} (h : Met l y ws rm (va_Pc av (nB G N ad w sz)) (nRd (.int (iI z))) 0 0 (fun _ => False)) (hp : post z w) : Met l y ws rm (va_Pc av (nB G N ad w sz)) (nPi G N ad sz post) 0 0 (nA N ad sz) := met_imp h (fun a st o t hP hq => ⟨⟨z, w, hq.1, hp, by rw [hq.2]; exact hP.2.2.1⟩, by rw [hq.2]; exact Nat.le_refl _, fun q _ _ => by rw [hq.2]⟩) (fun _ h => h.elim)
theorem rd_l {l : Launch} {G : nG} {N : Nat} {ad : Nat → Nat} {w : Nat → va_E} {sz : Nat} {y : MethodName} {ws : List Cond} {rm : Room} {av : List Value} {z : Int} {post : Int → (Nat → va_E) → Prop} (h : Met l y ws rm (va_Pc av (nB G N ad w sz)) (nRd (.long (jI z))) 0 0 (fun _ => False)) (hp : post z w) : Met l y ws rm (va_Pc av (nB G N ad w sz)) (nPl G N ad sz post) 0 0 (nA N ad sz) := met_imp h (fun a st o t hP hq => ⟨⟨z, w, hq.1, hp, by rw [hq.2]; exact hP.2.2.1⟩, by rw [hq.2]; exact Nat.le_refl _, fun q _ _ => by rw [hq.2]⟩) (fun _ h => h.elim)
theorem wr_i {l : Launch} {G : nG} {N : Nat} {ad : Nat → Nat} {w : Nat → va_E} {sz : Nat} {y : MethodName} {ws : List Cond} {rm : Room} {av : List Value} {post post' : Int → (Nat → va_E) → Prop} (h : Met l y ws rm (va_Pc av (nB G N ad w sz)) (nPi G N ad sz post) 0 0 (nA N ad sz)) (hp : ∀ r u, post r u → post' r u) : Met l y ws rm (va_Pc av (nB G N ad w sz)) (nPi G N ad sz post') 0 0 (nA N ad sz) := met_imp h (fun a st o t hP hq => ⟨hq.1.elim fun r hr => hr.elim fun u hu => ⟨r, u, hu.1, hp _ _ hu.2.1, hu.2.2⟩, hq.2⟩) (fun _ h => h)
theorem wr_l {l : Launch} {G : nG} {N : Nat} {ad : Nat → Nat} {w : Nat → va_E} {sz : Nat} {y : MethodName} {ws : List Cond} {rm : Room} {av : List Value} {post post' : Int → (Nat → va_E) → Prop} (h : Met l y ws rm (va_Pc av (nB G N ad w sz)) (nPl G N ad sz post) 0 0 (nA N ad sz)) (hp : ∀ r u, post r u → post' r u) : Met l y ws rm (va_Pc av (nB G N ad w sz)) (nPl G N ad sz post') 0 0 (nA N ad sz) := met_imp h (fun a st o t hP hq => ⟨hq.1.elim fun r hr => hr.elim fun u hu => ⟨r, u, hu.1, hp _ _ hu.2.1, hu.2.2⟩, hq.2⟩) (fun _ h => h)
theorem c_X4_isCoin {l : Launch} {G : nG} {N : Nat} {ad : Nat → Nat} {w : Nat → va_E} {sz : Nat} (b tn ra rb stp : Nat) (cn : Nat → Nat) (y z : Int) (hN : b + 49 < N) (hc : ∀ k, k < 2 → cn k ≤ 8) (hy : -2147483648 ≤ y ∧ y < 2147483648) (hz : -2147483648 ≤ z ∧ z < 2147483648) (f_L : w b = .inr (4, [.ref (ad (b + 1)), .ref (ad (b + 5)), .ref (ad (b + 9)), .ref (ad (b + 12)), .ref (ad (b + 13)), .int (iI ((tn : Nat) : Int)), .int (iI ((ra : Nat) : Int)), .int (iI ((rb : Nat) : Int)), .int (iI ((stp : Nat) : Int))])) (f_cn : ∀ k, k < 2 → w (b + 1 + 4 * k) = .inr (1, [.int (iI ((cn k : Nat) : Int)), .ref (ad (b + 1 + 4 * k + 1)), .ref (ad (b + 1 + 4 * k + 2)), .ref (ad (b + 1 + 4 * k + 3))])) : Met l yX4_isCoin wsX4_isCoin ({ frames := 2, cells := 0, slots := 0, locals := 43 }) (va_Pc [.ref (ad b), .int (iI y), .int (iI z)] (nB G N ad w sz)) (nRd (.int (iI (bI ((y = 0 ∨ y = 1) ∧ 0 ≤ z ∧ z < (cn y.toNat : Int)))))) 0 0 (fun _ => False) := by
  by_cases h : y = 0 ∨ y = 1
  · obtain ⟨sy, rfl⟩ : ∃ sy : Nat, y = (sy : Int) := ⟨y.toNat, by omega⟩
    have e1 : bI ((((sy : Nat) : Int) = 0 ∨ ((sy : Nat) : Int) = 1) ∧ 0 ≤ z ∧ z < (cn ((sy : Nat) : Int).toNat : Int)) = bI (0 ≤ z ∧ z < (cn sy : Int)) := bI_c (by rw [Int.toNat_natCast]; omega)
    rw [e1]
    exact c_X4_isCoin_y b tn ra rb stp sy (cn sy) z hN (by omega) (hc sy (by omega)) hz f_L (f_cn sy (by omega))
  · have e1 : bI ((y = 0 ∨ y = 1) ∧ 0 ≤ z ∧ z < (cn y.toNat : Int)) = bI False := bI_c ⟨fun q => h q.1, fun q => q.elim⟩
    rw [e1]
    exact c_X4_isCoin_n b tn ra rb stp y z hN hy (by omega) f_L
theorem c_X4_isSale {l : Launch} {G : nG} {N : Nat} {ad : Nat → Nat} {w : Nat → va_E} {sz : Nat} (b tn ra rb stp : Nat) (cn : Nat → Nat) (pz y z nz : Int) (hN : b + 49 < N) (hc : ∀ k, k < 2 → cn k ≤ 8) (hpz : -2147483648 ≤ pz ∧ pz < 2147483648) (hy : -2147483648 ≤ y ∧ y < 2147483648) (hz : -2147483648 ≤ z ∧ z < 2147483648) (hnz : -2147483648 ≤ nz ∧ nz < 2147483648) (f_L : w b = .inr (4, [.ref (ad (b + 1)), .ref (ad (b + 5)), .ref (ad (b + 9)), .ref (ad (b + 12)), .ref (ad (b + 13)), .int (iI ((tn : Nat) : Int)), .int (iI ((ra : Nat) : Int)), .int (iI ((rb : Nat) : Int)), .int (iI ((stp : Nat) : Int))])) (f_cn : ∀ k, k < 2 → w (b + 1 + 4 * k) = .inr (1, [.int (iI ((cn k : Nat) : Int)), .ref (ad (b + 1 + 4 * k + 1)), .ref (ad (b + 1 + 4 * k + 2)), .ref (ad (b + 1 + 4 * k + 3))])) : Met l yX4_isSale wsX4_isSale ({ frames := 3, cells := 0, slots := 0, locals := 66 }) (va_Pc [.ref (ad b), .int (iI pz), .int (iI y), .int (iI z), .int (iI nz)] (nB G N ad w sz)) (nRd (.int (iI (bI ((1 ≤ pz ∧ pz ≤ 2000) ∧ (1 ≤ nz ∧ nz ≤ 50) ∧ (y = 0 ∨ y = 1) ∧ 0 ≤ z ∧ z < (cn y.toNat : Int)))))) 0 0 (fun _ => False) := by
  by_cases h : y = 0 ∨ y = 1
  · obtain ⟨sy, rfl⟩ : ∃ sy : Nat, y = (sy : Int) := ⟨y.toNat, by omega⟩
    have e1 : bI ((1 ≤ pz ∧ pz ≤ 2000) ∧ (1 ≤ nz ∧ nz ≤ 50) ∧ (((sy : Nat) : Int) = 0 ∨ ((sy : Nat) : Int) = 1) ∧ 0 ≤ z ∧ z < (cn ((sy : Nat) : Int).toNat : Int)) = bI ((1 ≤ pz ∧ pz ≤ 2000) ∧ (1 ≤ nz ∧ nz ≤ 50) ∧ 0 ≤ z ∧ z < (cn sy : Int)) := bI_c (by rw [Int.toNat_natCast]; omega)
    rw [e1]
    exact c_X4_isSale_y b tn ra rb stp sy (cn sy) pz z nz hN (by omega) (hc sy (by omega)) hpz hz hnz f_L (f_cn sy (by omega))
  · have e1 : bI ((1 ≤ pz ∧ pz ≤ 2000) ∧ (1 ≤ nz ∧ nz ≤ 50) ∧ (y = 0 ∨ y = 1) ∧ 0 ≤ z ∧ z < (cn y.toNat : Int)) = bI False := bI_c ⟨fun q => h q.2.2.1, fun q => q.elim⟩
    rw [e1]
    exact c_X4_isSale_n b tn ra rb stp pz y z nz hN hy (by omega) hpz hz hnz f_L
theorem iI_and1Z (x : Int32) : x &&& iI 1 = iI (x.toInt % 2) := by
  rw [pk_and x (m := iI 1) 1 (by decide)]
  have e1 : (x.toInt % 2) = ((x.toBitVec.toNat % 2 ^ 1 : Nat) : Int) := by
    have h1 : x.toInt = x.toBitVec.toInt := rfl
    rw [h1, BitVec.toInt_eq_toNat_cond]
    split <;> omega
  rw [e1]
  exact iI_nat _
def bt (z : Int) (k : Nat) : Int := (z >>> k) % 2
theorem bt_rng (z : Int) (k : Nat) : 0 ≤ bt z k ∧ bt z k ≤ 1 := by
  unfold bt
  omega
theorem shl1 : ∀ k : Nat, k < 15 → iI 1 <<< (iI (k : Int) &&& 31) = iI ((2 ^ k : Nat) : Int) := by decide
theorem iI_shr {z : Int} {k : Nat} (hk : k < 31) : iI z >>> (iI (k : Int) &&& 31) = iI ((iI z).toInt >>> k) := by
  rw [← iI_of (iI z >>> (iI (k : Int) &&& 31)), pk_shr (iI z) (iI (k : Int) &&& 31) k (by
    have : ∀ k : Nat, k < 31 → ((iI (k : Int) &&& 31).toBitVec.smod 32).toNat = k := by decide
    exact this k hk)]
theorem n_ishr {p : Program} {l : Launch} {e : Env} {R : Room} {s : State} {m : MethodId} {args : Array Value} {below : List Frame} {meth : Method} {c : Code} {H : Heap} {locs : List Loc} {cells slots : Nat} {Q : State → Prop} {cc : ByteArray} {pc : Nat} {ls : Array Slot} {rest : List Value} (hx : p.tables.exec = Jvm.exec) (hb : c.code = cc) {z : Int} (k : Nat) (hdg : decode cc pc = .ok (.ishr, 1)) (hz : -2147483648 ≤ z ∧ z < 2147483648) (hk : k < 31) (kk : W p l e R s m args below meth c H locs cells slots Q (F0 m (pc + 1) ls (.int (iI (z >>> k)) :: rest))) : W p l e R s m args below meth c H locs cells slots Q (F0 m pc ls (.int (iI ((k : Nat) : Int)) :: .int (iI z) :: rest)) := lv_ishr hx hb hdg (by rw [iI_shr hk, iI_T hz]; exact kk)
theorem shr_rng {z : Int} (hz : -2147483648 ≤ z ∧ z < 2147483648) {k : Nat} (hk : k < 31) : -2147483648 ≤ z >>> k ∧ z >>> k < 2147483648 := by
  have h1 := iI_rng (iI z >>> (iI (k : Int) &&& 31))
  rw [pk_shr (iI z) (iI (k : Int) &&& 31) k (by
    have : ∀ k : Nat, k < 31 → ((iI (k : Int) &&& 31).toBitVec.smod 32).toNat = k := by decide
    exact this k hk), iI_T hz] at h1
  exact h1
theorem n_bit {p : Program} {l : Launch} {e : Env} {R : Room} {s : State} {m : MethodId} {args : Array Value} {below : List Frame} {meth : Method} {c : Code} {H : Heap} {locs : List Loc} {cells slots : Nat} {Q : State → Prop} {cc : ByteArray} {pc : Nat} {ls : Array Slot} {rest : List Value} (hx : p.tables.exec = Jvm.exec) (hb : c.code = cc) {z : Int} (k : Nat) (hdg : decode cc pc = .ok (.iand, 1)) (hz : -2147483648 ≤ z ∧ z < 2147483648) (hk : k < 31) (kk : W p l e R s m args below meth c H locs cells slots Q (F0 m (pc + 1) ls (.int (iI (bt z k)) :: rest))) : W p l e R s m args below meth c H locs cells slots Q (F0 m pc ls (.int (iI 1) :: .int (iI (z >>> k)) :: rest)) := lv_iand hx hb hdg (by rw [iI_and1Z, iI_T (shr_rng hz hk)]; exact kk)
def sumI (f : Nat → Int) : Nat → Int
  | 0 => 0
  | n + 1 => sumI f n + f n
def gnV (gp gt : Nat → Nat) (ra rb stp gd ru : Nat) : Int := (((nPr (gp gd * ra) (stp * rb) stp ru : Nat) : Int) * ((rb : Nat) : Int) - (gp gd : Int) * ((ra : Nat) : Int)) * (gt gd : Int)
set_option maxHeartbeats 4000000 in
set_option maxRecDepth 100000 in
theorem c_X6_coin_n {l : Launch} {G : nG} {N : Nat} {ad : Nat → Nat} {w : Nat → va_E} {sz : Nat} (x b tn ra rb stp : Nat) (y z : Int) (hN : x + 218 < N) (hxb : b = x + 1) (hy : -2147483648 ≤ y ∧ y < 2147483648) (hs : ¬ y = 0 ∧ ¬ y = 1) (f_x : w x = .inr (6, [.ref (ad b), .ref (ad (x + 51)), .ref (ad (x + 52)), .ref (ad (x + 53)), .ref (ad (x + 67)), .ref (ad (x + 68))])) (f_L : w b = .inr (4, [.ref (ad (b + 1)), .ref (ad (b + 5)), .ref (ad (b + 9)), .ref (ad (b + 12)), .ref (ad (b + 13)), .int (iI ((tn : Nat) : Int)), .int (iI ((ra : Nat) : Int)), .int (iI ((rb : Nat) : Int)), .int (iI ((stp : Nat) : Int))])) : Met l yX6_coin wsX6_coin ({ frames := 2, cells := 0, slots := 0, locals := 44 }) (va_Pc [.ref (ad x), .int (iI y), .int (iI z)] (nB G N ad w sz)) (nRd (.int (iI (-1)))) 0 0 (fun _ => False) := by
  refine n_ent (cc := cX6_coin) (maxL := 4) (ret := (some .int)) (by decide) rfl (Nat.le_of_ble_eq_true rfl) ?_
  intro p e s m below meth cd hx hb hr hml hlocks hts hown hnm hsz hP hK hI Q hQ ls hl
  have hown : s.vm.findClass RX6 = some m.cls := hown
  have hl : lv_has ls 4 [(0, .ref (ad x)), (1, .int (iI y)), (2, .int (iI z))] := hl
  refine lv_aload_n hx hb dX6_coin_0 rfl (lv_at hl 0 rfl) ?_
  refine n_get hx hb hts u_X6 hown hK hP (by omega) f_x rfl 0 (by decide) (nT_m wf_X6_10) rfl dX6_coin_1 ?_
  refine lv_iload_n hx hb dX6_coin_4 rfl (lv_at hl 1 rfl) ?_
  refine n_rdF (va_runV (As := [.int (iI y)]) (rest := []) ⟨hx, hb, hml, hown, hts⟩ (c_X4_coinageOf_n _ _ _ _ _ y (by omega) (by omega) (by omega) f_L) (cwV 1 hts (nT_V wl_X6_39 wi_X4_coinageOf ws_X4_coinageOf wn_X4 wc_X4_coinageOf) rfl rfl rfl (by decide +kernel) ⟨Nat.le_of_ble_eq_true rfl, Nat.le_of_ble_eq_true rfl⟩) (nB.preV hK hI hP (by omega) f_L rfl rfl) rfl rfl hl.1 rfl (lv_room (Nat.le_of_ble_eq_true rfl)) dX6_coin_5 ⟨Nat.zero_le _, Nat.zero_le _⟩) ?_
  refine lv_astore_nN (lv' := [(3, .null), (0, .ref (ad x)), (1, .int (iI y)), (2, .int (iI z))]) hx hb dX6_coin_8 rfl hl (by decide) rfl (fun ls hl => ?_)
  refine lv_aload_nN hx hb dX6_coin_9 rfl (lv_at hl 0 rfl) ?_
  refine lv_ifnonnullN hx hb dX6_coin_10 ?_
  refine n_iconst hx hb dX6_coin_13 ?_
  refine lv_goto (tgt := 22) hx hb dX6_coin_14 (by decide) ?_
  exact n_iretR hQ hx hb hr hlocks rfl dX6_coin_22
set_option maxHeartbeats 4000000 in
set_option maxRecDepth 100000 in
theorem c_X6_coin_no {l : Launch} {G : nG} {N : Nat} {ad : Nat → Nat} {w : Nat → va_E} {sz : Nat} (x b tn ra rb stp : Nat) (sy cnt : Nat) (val : Nat → Nat) (z : Int) (hN : x + 218 < N) (hxb : b = x + 1) (hs : sy < 2) (hc : cnt ≤ 8) (hz : -2147483648 ≤ z ∧ z < 2147483648) (hval : ∀ k, val k ≤ 1000) (hno : cnt = 8 ∨ ¬ (1 ≤ z ∧ z ≤ 1000) ∨ anyV val z cnt = true) (f_x : w x = .inr (6, [.ref (ad b), .ref (ad (x + 51)), .ref (ad (x + 52)), .ref (ad (x + 53)), .ref (ad (x + 67)), .ref (ad (x + 68))])) (f_L : w b = .inr (4, [.ref (ad (b + 1)), .ref (ad (b + 5)), .ref (ad (b + 9)), .ref (ad (b + 12)), .ref (ad (b + 13)), .int (iI ((tn : Nat) : Int)), .int (iI ((ra : Nat) : Int)), .int (iI ((rb : Nat) : Int)), .int (iI ((stp : Nat) : Int))])) (f_o : w (b + 1 + 4 * sy) = .inr (1, [.int (iI ((cnt : Nat) : Int)), .ref (ad ((b + 1 + 4 * sy) + 1)), .ref (ad ((b + 1 + 4 * sy) + 2)), .ref (ad ((b + 1 + 4 * sy) + 3))])) (f_v : w ((b + 1 + 4 * sy) + 1) = aI G 8 (fun q => (val q : Int))) : Met l yX6_coin wsX6_coin ({ frames := 2, cells := 0, slots := 0, locals := 44 }) (va_Pc [.ref (ad x), .int (iI ((sy : Nat) : Int)), .int (iI z)] (nB G N ad w sz)) (nRd (.int (iI (-1)))) 0 0 (fun _ => False) := by
  refine n_ent (cc := cX6_coin) (maxL := 4) (ret := (some .int)) (by decide) rfl (Nat.le_of_ble_eq_true rfl) ?_
  intro p e s m below meth cd hx hb hr hml hlocks hts hown hnm hsz hP hK hI Q hQ ls hl
  have hown : s.vm.findClass RX6 = some m.cls := hown
  have hl : lv_has ls 4 [(0, .ref (ad x)), (1, .int (iI ((sy : Nat) : Int))), (2, .int (iI z))] := hl
  refine lv_aload_n hx hb dX6_coin_0 rfl (lv_at hl 0 rfl) ?_
  refine n_get hx hb hts u_X6 hown hK hP (by omega) f_x rfl 0 (by decide) (nT_m wf_X6_10) rfl dX6_coin_1 ?_
  refine lv_iload_n hx hb dX6_coin_4 rfl (lv_at hl 1 rfl) ?_
  refine n_rdF (va_runV (As := [.int (iI ((sy : Nat) : Int))]) (rest := []) ⟨hx, hb, hml, hown, hts⟩ (c_X4_coinageOf_y _ _ _ _ _ sy (by omega) (by omega) f_L) (cwV 1 hts (nT_V wl_X6_39 wi_X4_coinageOf ws_X4_coinageOf wn_X4 wc_X4_coinageOf) rfl rfl rfl (by decide +kernel) ⟨Nat.le_of_ble_eq_true rfl, Nat.le_of_ble_eq_true rfl⟩) (nB.preV hK hI hP (by omega) f_L rfl rfl) rfl rfl hl.1 rfl (lv_room (Nat.le_of_ble_eq_true rfl)) dX6_coin_5 ⟨Nat.zero_le _, Nat.zero_le _⟩) ?_
  refine lv_astore_n (lv' := [(3, .ref (ad (b + 1 + 4 * sy))), (0, .ref (ad x)), (1, .int (iI ((sy : Nat) : Int))), (2, .int (iI z))]) hx hb dX6_coin_8 rfl hl (by decide) rfl (fun ls hl => ?_)
  refine lv_aload_n hx hb dX6_coin_9 rfl (lv_at hl 0 rfl) ?_
  refine lv_ifnonnull (tgt := 17) hx hb dX6_coin_10 (by decide) ?_
  refine lv_aload_n hx hb dX6_coin_17 rfl (lv_at hl 0 rfl) ?_
  refine lv_iload_n hx hb dX6_coin_18 rfl (lv_at hl 3 rfl) ?_
  refine n_rdF (va_runV (As := [.int (iI z)]) (rest := []) ⟨hx, hb, hml, hown, hts⟩ (c_X1_add_no _ cnt val z (by omega) hc hz hval hno f_o f_v) (cwV 1 hts (nT_V wl_X6_43 wi_X1_add ws_X1_add wn_X1 wc_X1_add) rfl rfl rfl (by decide +kernel) ⟨Nat.le_of_ble_eq_true rfl, Nat.le_of_ble_eq_true rfl⟩) (nB.preV hK hI hP (by omega) f_o rfl rfl) rfl rfl hl.1 rfl (lv_room (Nat.le_of_ble_eq_true rfl)) dX6_coin_19 ⟨Nat.zero_le _, Nat.zero_le _⟩) ?_
  exact n_iretR hQ hx hb hr hlocks rfl dX6_coin_22
set_option maxHeartbeats 4000000 in
set_option maxRecDepth 100000 in
theorem c_X6_coin_yes {l : Launch} {G : nG} {N : Nat} {ad : Nat → Nat} {w : Nat → va_E} {sz : Nat} (x b tn ra rb stp : Nat) (sy cnt : Nat) (val fal : Nat → Nat) (lst : Nat → Int) (v : Nat) (hN : x + 218 < N) (hxb : b = x + 1) (hs : sy < 2) (hc : cnt < 8) (hv : 1 ≤ v ∧ v ≤ 1000) (hval : ∀ k, val k ≤ 1000) (hfal : ∀ k, k < cnt → fal k < 8) (hlst : ∀ k, k < 2001 → -1 ≤ lst k ∧ lst k ≤ k) (hno : anyV val v cnt = false) (f_x : w x = .inr (6, [.ref (ad b), .ref (ad (x + 51)), .ref (ad (x + 52)), .ref (ad (x + 53)), .ref (ad (x + 67)), .ref (ad (x + 68))])) (f_L : w b = .inr (4, [.ref (ad (b + 1)), .ref (ad (b + 5)), .ref (ad (b + 9)), .ref (ad (b + 12)), .ref (ad (b + 13)), .int (iI ((tn : Nat) : Int)), .int (iI ((ra : Nat) : Int)), .int (iI ((rb : Nat) : Int)), .int (iI ((stp : Nat) : Int))])) (f_o : w (b + 1 + 4 * sy) = .inr (1, [.int (iI ((cnt : Nat) : Int)), .ref (ad ((b + 1 + 4 * sy) + 1)), .ref (ad ((b + 1 + 4 * sy) + 2)), .ref (ad ((b + 1 + 4 * sy) + 3))])) (f_v : w ((b + 1 + 4 * sy) + 1) = aI G 8 (fun q => (val q : Int))) (f_f : w ((b + 1 + 4 * sy) + 2) = aI G 8 (fun q => (fal q : Int))) (f_l : w ((b + 1 + 4 * sy) + 3) = aI G 2001 lst) : Met l yX6_coin wsX6_coin ({ frames := 2, cells := 0, slots := 0, locals := 44 }) (va_Pc [.ref (ad x), .int (iI ((sy : Nat) : Int)), .int (iI ((v : Nat) : Int))] (nB G N ad w sz)) (nPi G N ad sz (fun r u => (∀ j, j ≠ (b + 1 + 4 * sy) → j ≠ ((b + 1 + 4 * sy) + 1) → j ≠ ((b + 1 + 4 * sy) + 2) → j ≠ ((b + 1 + 4 * sy) + 3) → u j = w j) ∧ (r = cnt) ∧ (u (b + 1 + 4 * sy) = .inr (1, [.int (iI ((cnt + 1 : Nat) : Int)), .ref (ad ((b + 1 + 4 * sy) + 1)), .ref (ad ((b + 1 + 4 * sy) + 2)), .ref (ad ((b + 1 + 4 * sy) + 3))])) ∧ (u ((b + 1 + 4 * sy) + 1) = aI G 8 (fun q => ((va_up val cnt v q : Nat) : Int))) ∧ (u ((b + 1 + 4 * sy) + 2) = aI G 8 (fun k => (insF fal cnt (insP (va_up val cnt v) fal v cnt) k : Int))) ∧ (u ((b + 1 + 4 * sy) + 3) = aI G 2001 (imp lst v (2001 - v))))) 0 0 (nA N ad sz) := by
  refine n_ent (cc := cX6_coin) (maxL := 4) (ret := (some .int)) (by decide) rfl (Nat.le_of_ble_eq_true rfl) ?_
  intro p e s m below meth cd hx hb hr hml hlocks hts hown hnm hsz hP hK hI Q hQ ls hl
  have hown : s.vm.findClass RX6 = some m.cls := hown
  subst hsz
  have hJ := hI.J s.heap.size
  have hS : va_S (nA N ad s.heap.size) s.heap s.heap [] := va_S.rf
  have hfr : ∀ j, j ≠ (b + 1 + 4 * sy) → j ≠ ((b + 1 + 4 * sy) + 1) → j ≠ ((b + 1 + 4 * sy) + 2) → j ≠ ((b + 1 + 4 * sy) + 3) → w j = w j := fun _ _ _ _ _ => rfl
  have hl : lv_has ls 4 [(0, .ref (ad x)), (1, .int (iI ((sy : Nat) : Int))), (2, .int (iI ((v : Nat) : Int)))] := hl
  refine lv_aload_n hx hb dX6_coin_0 rfl (lv_at hl 0 rfl) ?_
  refine n_get hx hb hts u_X6 hown hK hP (by omega) f_x rfl 0 (by decide) (nT_m wf_X6_10) rfl dX6_coin_1 ?_
  refine lv_iload_n hx hb dX6_coin_4 rfl (lv_at hl 1 rfl) ?_
  refine n_rdF (va_runV (As := [.int (iI ((sy : Nat) : Int))]) (rest := []) ⟨hx, hb, hml, hown, hts⟩ (c_X4_coinageOf_y _ _ _ _ _ sy (by omega) (by omega) f_L) (cwV 1 hts (nT_V wl_X6_39 wi_X4_coinageOf ws_X4_coinageOf wn_X4 wc_X4_coinageOf) rfl rfl rfl (by decide +kernel) ⟨Nat.le_of_ble_eq_true rfl, Nat.le_of_ble_eq_true rfl⟩) (nB.preV hK hI hP (by omega) f_L rfl rfl) rfl rfl hl.1 rfl (lv_room (Nat.le_of_ble_eq_true rfl)) dX6_coin_5 ⟨Nat.zero_le _, Nat.zero_le _⟩) ?_
  refine lv_astore_n (lv' := [(3, .ref (ad (b + 1 + 4 * sy))), (0, .ref (ad x)), (1, .int (iI ((sy : Nat) : Int))), (2, .int (iI ((v : Nat) : Int)))]) hx hb dX6_coin_8 rfl hl (by decide) rfl (fun ls hl => ?_)
  refine lv_aload_n hx hb dX6_coin_9 rfl (lv_at hl 0 rfl) ?_
  refine lv_ifnonnull (tgt := 17) hx hb dX6_coin_10 (by decide) ?_
  refine lv_aload_n hx hb dX6_coin_17 rfl (lv_at hl 0 rfl) ?_
  refine lv_iload_n hx hb dX6_coin_18 rfl (lv_at hl 3 rfl) ?_
  refine n_cI (va_runV (As := [.int (iI ((v : Nat) : Int))]) (rest := []) ⟨hx, hb, hml, hown, hts⟩ (c_X1_add_yes _ cnt val fal lst v (by omega) hc hv hval hfal hlst hno f_o f_v f_f f_l) (cwV 1 hts (nT_V wl_X6_43 wi_X1_add ws_X1_add wn_X1 wc_X1_add) rfl rfl rfl (by decide +kernel) ⟨Nat.le_of_ble_eq_true rfl, Nat.le_of_ble_eq_true rfl⟩) (nB.preV hK hI hP (by omega) f_o rfl rfl) rfl rfl hl.1 rfl (lv_room (Nat.le_of_ble_eq_true rfl)) dX6_coin_19 ⟨Nat.zero_le _, Nat.zero_le _⟩) hS (fun r2 w1 H locs hq3 hP hS => ?_)
  obtain ⟨hne4, hr9, h0, h1, h2, h3⟩ := hq3
  have f_x := (hne4 x (by omega) (by omega) (by omega) (by omega)).trans f_x
  have f_L := (hne4 b (by omega) (by omega) (by omega) (by omega)).trans f_L
  have f_o : w1 (b + 1 + 4 * sy) = .inr (1, [.int (iI ((cnt + 1 : Nat) : Int)), .ref (ad ((b + 1 + 4 * sy) + 1)), .ref (ad ((b + 1 + 4 * sy) + 2)), .ref (ad ((b + 1 + 4 * sy) + 3))]) := h0
  have f_v : w1 ((b + 1 + 4 * sy) + 1) = aI G 8 (fun q => ((va_up val cnt v q : Nat) : Int)) := h1
  have f_f : w1 ((b + 1 + 4 * sy) + 2) = aI G 8 (fun k => (insF fal cnt (insP (va_up val cnt v) fal v cnt) k : Int)) := h2
  have f_l : w1 ((b + 1 + 4 * sy) + 3) = aI G 2001 (imp lst v (2001 - v)) := h3
  have hfr : ∀ j, j ≠ (b + 1 + 4 * sy) → j ≠ ((b + 1 + 4 * sy) + 1) → j ≠ ((b + 1 + 4 * sy) + 2) → j ≠ ((b + 1 + 4 * sy) + 3) → w1 j = w j := fun j a0 a1 a2 a3 => (hne4 j (by omega) (by omega) (by omega) (by omega)).trans (hfr j a0 a1 a2 a3)
  refine n_iretP hQ hx hb hr hlocks hP hS dX6_coin_22 ?_
  exact ⟨hfr, hr9, f_o, f_v, f_f, f_l⟩
set_option maxHeartbeats 4000000 in
set_option maxRecDepth 100000 in
theorem c_X6_rate_no {l : Launch} {G : nG} {N : Nat} {ad : Nat → Nat} {w : Nat → va_E} {sz : Nat} (x b tn ra rb stp : Nat) (sa sc tk : Nat → Nat) (a c : Int) (hN : x + 218 < N) (hxb : b = x + 1) (htn : tn ≤ 4) (hT : ∀ t, t < 4 → w (b + 14 + 9 * t) = .inr (5, [.ref (ad (b + 14 + 9 * t + 1)), .ref (ad (b + 14 + 9 * t + 2)), .ref (ad (b + 14 + 9 * t + 3)), .ref (ad (b + 14 + 9 * t + 4)), .int (iI ((sa t : Nat) : Int)), .long (jI ((sc t : Nat) : Int)), .long (jI ((tk t : Nat) : Int))])) (hsa : ∀ k, sa k < 2147483648) (ha : -2147483648 ≤ a ∧ a < 2147483648) (hc : -2147483648 ≤ c ∧ c < 2147483648) (hno : ¬ (1 ≤ a ∧ a ≤ 100) ∨ ¬ (1 ≤ c ∧ c ≤ 100) ∨ anyS sa tn = true) (f_x : w x = .inr (6, [.ref (ad b), .ref (ad (x + 51)), .ref (ad (x + 52)), .ref (ad (x + 53)), .ref (ad (x + 67)), .ref (ad (x + 68))])) (f_L : w b = .inr (4, [.ref (ad (b + 1)), .ref (ad (b + 5)), .ref (ad (b + 9)), .ref (ad (b + 12)), .ref (ad (b + 13)), .int (iI ((tn : Nat) : Int)), .int (iI ((ra : Nat) : Int)), .int (iI ((rb : Nat) : Int)), .int (iI ((stp : Nat) : Int))])) (f_ts : w (b + 12) = aR G 3 4 (fun k => some (ad (b + 14 + 9 * k)))) : Met l yX6_rate wsX6_rate ({ frames := 1, cells := 0, slots := 0, locals := 22 }) (va_Pc [.ref (ad x), .int (iI a), .int (iI c)] (nB G N ad w sz)) (nRd (.int (iI (bI False)))) 0 0 (fun _ => False) := by
  refine n_ent (cc := cX6_rate) (maxL := 3) (ret := (some .boolean)) (by decide) rfl (Nat.le_of_ble_eq_true rfl) ?_
  intro p e s m below meth cd hx hb hr hml hlocks hts hown hnm hsz hP hK hI Q hQ ls hl
  have hown : s.vm.findClass RX6 = some m.cls := hown
  have hl : lv_has ls 3 [(0, .ref (ad x)), (1, .int (iI a)), (2, .int (iI c))] := hl
  refine n_iconst hx hb dX6_rate_0 ?_
  refine lv_iload_n hx hb dX6_rate_1 rfl (lv_at hl 1 rfl) ?_
  refine n_bipush hx hb dX6_rate_2 (by decide) ?_
  refine n_rdF (va_runS (As := [.int (iI 1), .int (iI a), .int (iI 100)]) (rest := []) ⟨hx, hb, hml, hown, hts⟩ (c_X6_within 1 a 100 (by omega) (by omega) (by omega)) (va_cwS 3 hts (nT_S wl_X6_49 wt_X6_within wn_X6 wc_X6_within) rfl rfl rfl (by decide +kernel) ⟨Nat.le_of_ble_eq_true rfl, Nat.le_of_ble_eq_true rfl⟩) preEq rfl rfl hl.1 rfl (lv_room (Nat.le_of_ble_eq_true rfl)) dX6_rate_4 ⟨Nat.zero_le _, Nat.zero_le _⟩) ?_
  refine n_if_eqB (tgt := 30) hx hb dX6_rate_7 (by decide) (fun hc7 => ?_) (fun hc7 => ?_)
  · skip
    refine n_iconst hx hb dX6_rate_30 ?_
    exact n_zretR hQ hx hb hr hlocks rfl dX6_rate_31
  · skip
    refine n_iconst hx hb dX6_rate_10 ?_
    refine lv_iload_n hx hb dX6_rate_11 rfl (lv_at hl 2 rfl) ?_
    refine n_bipush hx hb dX6_rate_12 (by decide) ?_
    refine n_rdF (va_runS (As := [.int (iI 1), .int (iI c), .int (iI 100)]) (rest := []) ⟨hx, hb, hml, hown, hts⟩ (c_X6_within 1 c 100 (by omega) (by omega) (by omega)) (va_cwS 3 hts (nT_S wl_X6_49 wt_X6_within wn_X6 wc_X6_within) rfl rfl rfl (by decide +kernel) ⟨Nat.le_of_ble_eq_true rfl, Nat.le_of_ble_eq_true rfl⟩) preEq rfl rfl hl.1 rfl (lv_room (Nat.le_of_ble_eq_true rfl)) dX6_rate_14 ⟨Nat.zero_le _, Nat.zero_le _⟩) ?_
    refine n_if_eqB (tgt := 30) hx hb dX6_rate_17 (by decide) (fun hc17 => ?_) (fun hc17 => ?_)
    · skip
      refine n_iconst hx hb dX6_rate_30 ?_
      exact n_zretR hQ hx hb hr hlocks rfl dX6_rate_31
    · skip
      refine lv_aload_n hx hb dX6_rate_20 rfl (lv_at hl 0 rfl) ?_
      refine n_get hx hb hts u_X6 hown hK hP (by omega) f_x rfl 0 (by decide) (nT_m wf_X6_10) rfl dX6_rate_21 ?_
      refine n_rdF (va_runV (As := []) (rest := []) ⟨hx, hb, hml, hown, hts⟩ (c_X4_hasSold _ _ _ _ _ sa sc tk (by omega) (by omega) hT hsa f_L f_ts) (cwV 0 hts (nT_V wl_X6_53 wi_X4_hasSold ws_X4_hasSold wn_X4 wc_X4_hasSold) rfl rfl rfl (by decide +kernel) ⟨Nat.le_of_ble_eq_true rfl, Nat.le_of_ble_eq_true rfl⟩) (nB.preV hK hI hP (by omega) f_L rfl rfl) rfl rfl hl.1 rfl (lv_room (Nat.le_of_ble_eq_true rfl)) dX6_rate_24 ⟨Nat.zero_le _, Nat.zero_le _⟩) ?_
      refine n_if_eqB (tgt := 32) hx hb dX6_rate_27 (by decide) (fun hc27 => ?_) (fun hc27 => ?_)
      · skip
        exact absurd hno (by intro h9; rcases h9 with h9 | h9 | h9 <;> first | omega | exact hc27 h9)
      · skip
        refine n_iconst hx hb dX6_rate_30 ?_
        exact n_zretR hQ hx hb hr hlocks rfl dX6_rate_31
set_option maxHeartbeats 4000000 in
set_option maxRecDepth 100000 in
theorem c_X6_rate_yes {l : Launch} {G : nG} {N : Nat} {ad : Nat → Nat} {w : Nat → va_E} {sz : Nat} (x b tn ra rb stp : Nat) (sa sc tk : Nat → Nat) (a c : Nat) (hN : x + 218 < N) (hxb : b = x + 1) (htn : tn ≤ 4) (hT : ∀ t, t < 4 → w (b + 14 + 9 * t) = .inr (5, [.ref (ad (b + 14 + 9 * t + 1)), .ref (ad (b + 14 + 9 * t + 2)), .ref (ad (b + 14 + 9 * t + 3)), .ref (ad (b + 14 + 9 * t + 4)), .int (iI ((sa t : Nat) : Int)), .long (jI ((sc t : Nat) : Int)), .long (jI ((tk t : Nat) : Int))])) (hsa : ∀ k, sa k < 2147483648) (ha : 1 ≤ a ∧ a ≤ 100) (hc : 1 ≤ c ∧ c ≤ 100) (hno : anyS sa tn = false) (f_x : w x = .inr (6, [.ref (ad b), .ref (ad (x + 51)), .ref (ad (x + 52)), .ref (ad (x + 53)), .ref (ad (x + 67)), .ref (ad (x + 68))])) (f_L : w b = .inr (4, [.ref (ad (b + 1)), .ref (ad (b + 5)), .ref (ad (b + 9)), .ref (ad (b + 12)), .ref (ad (b + 13)), .int (iI ((tn : Nat) : Int)), .int (iI ((ra : Nat) : Int)), .int (iI ((rb : Nat) : Int)), .int (iI ((stp : Nat) : Int))])) (f_ts : w (b + 12) = aR G 3 4 (fun k => some (ad (b + 14 + 9 * k)))) : Met l yX6_rate wsX6_rate ({ frames := 1, cells := 0, slots := 0, locals := 22 }) (va_Pc [.ref (ad x), .int (iI ((a : Nat) : Int)), .int (iI ((c : Nat) : Int))] (nB G N ad w sz)) (nPi G N ad sz (fun r u => (∀ j, j ≠ b → u j = w j) ∧ (r = 1) ∧ (u b = .inr (4, [.ref (ad (b + 1)), .ref (ad (b + 5)), .ref (ad (b + 9)), .ref (ad (b + 12)), .ref (ad (b + 13)), .int (iI ((tn : Nat) : Int)), .int (iI ((a : Nat) : Int)), .int (iI ((c : Nat) : Int)), .int (iI ((stp : Nat) : Int))])))) 0 0 (nA N ad sz) := by
  refine n_ent (cc := cX6_rate) (maxL := 3) (ret := (some .boolean)) (by decide) rfl (Nat.le_of_ble_eq_true rfl) ?_
  intro p e s m below meth cd hx hb hr hml hlocks hts hown hnm hsz hP hK hI Q hQ ls hl
  have hown : s.vm.findClass RX6 = some m.cls := hown
  subst hsz
  have hJ := hI.J s.heap.size
  have hS : va_S (nA N ad s.heap.size) s.heap s.heap [] := va_S.rf
  have hfr : ∀ j, j ≠ b → w j = w j := fun _ _ => rfl
  have hl : lv_has ls 3 [(0, .ref (ad x)), (1, .int (iI ((a : Nat) : Int))), (2, .int (iI ((c : Nat) : Int)))] := hl
  refine n_iconst hx hb dX6_rate_0 ?_
  refine lv_iload_n hx hb dX6_rate_1 rfl (lv_at hl 1 rfl) ?_
  refine n_bipush hx hb dX6_rate_2 (by decide) ?_
  refine n_rdF (va_runS (As := [.int (iI 1), .int (iI ((a : Nat) : Int)), .int (iI 100)]) (rest := []) ⟨hx, hb, hml, hown, hts⟩ (c_X6_within 1 ((a : Nat) : Int) 100 (by omega) (by omega) (by omega)) (va_cwS 3 hts (nT_S wl_X6_49 wt_X6_within wn_X6 wc_X6_within) rfl rfl rfl (by decide +kernel) ⟨Nat.le_of_ble_eq_true rfl, Nat.le_of_ble_eq_true rfl⟩) preEq rfl rfl hl.1 rfl (lv_room (Nat.le_of_ble_eq_true rfl)) dX6_rate_4 ⟨Nat.zero_le _, Nat.zero_le _⟩) ?_
  refine n_if_eqB (tgt := 30) hx hb dX6_rate_7 (by decide) (fun hc7 => ?_) (fun hc7 => ?_)
  · skip
    exact absurd hc7 (by omega)
  · skip
    refine n_iconst hx hb dX6_rate_10 ?_
    refine lv_iload_n hx hb dX6_rate_11 rfl (lv_at hl 2 rfl) ?_
    refine n_bipush hx hb dX6_rate_12 (by decide) ?_
    refine n_rdF (va_runS (As := [.int (iI 1), .int (iI ((c : Nat) : Int)), .int (iI 100)]) (rest := []) ⟨hx, hb, hml, hown, hts⟩ (c_X6_within 1 ((c : Nat) : Int) 100 (by omega) (by omega) (by omega)) (va_cwS 3 hts (nT_S wl_X6_49 wt_X6_within wn_X6 wc_X6_within) rfl rfl rfl (by decide +kernel) ⟨Nat.le_of_ble_eq_true rfl, Nat.le_of_ble_eq_true rfl⟩) preEq rfl rfl hl.1 rfl (lv_room (Nat.le_of_ble_eq_true rfl)) dX6_rate_14 ⟨Nat.zero_le _, Nat.zero_le _⟩) ?_
    refine n_if_eqB (tgt := 30) hx hb dX6_rate_17 (by decide) (fun hc17 => ?_) (fun hc17 => ?_)
    · skip
      exact absurd hc17 (by omega)
    · skip
      refine lv_aload_n hx hb dX6_rate_20 rfl (lv_at hl 0 rfl) ?_
      refine n_get hx hb hts u_X6 hown hK hP (by omega) f_x rfl 0 (by decide) (nT_m wf_X6_10) rfl dX6_rate_21 ?_
      refine n_rdF (va_runV (As := []) (rest := []) ⟨hx, hb, hml, hown, hts⟩ (c_X4_hasSold _ _ _ _ _ sa sc tk (by omega) (by omega) hT hsa f_L f_ts) (cwV 0 hts (nT_V wl_X6_53 wi_X4_hasSold ws_X4_hasSold wn_X4 wc_X4_hasSold) rfl rfl rfl (by decide +kernel) ⟨Nat.le_of_ble_eq_true rfl, Nat.le_of_ble_eq_true rfl⟩) (nB.preV hK hI hP (by omega) f_L rfl rfl) rfl rfl hl.1 rfl (lv_room (Nat.le_of_ble_eq_true rfl)) dX6_rate_24 ⟨Nat.zero_le _, Nat.zero_le _⟩) ?_
      refine n_if_eqB (tgt := 32) hx hb dX6_rate_27 (by decide) (fun hc27 => ?_) (fun hc27 => ?_)
      · skip
        refine lv_aload_n hx hb dX6_rate_32 rfl (lv_at hl 0 rfl) ?_
        refine n_get hx hb hts u_X6 hown hK hP (by omega) f_x rfl 0 (by decide) (nT_m wf_X6_10) rfl dX6_rate_33 ?_
        refine lv_iload_n hx hb dX6_rate_36 rfl (lv_at hl 1 rfl) ?_
        refine n_put hx hb hts u_X4 tyX4 tyX4_ok nmX4 hown hK hJ hP hS (by omega) f_L rfl 6 (by decide) (nT_m wf_X6_57) rfl rfl rfl (Nat.le_of_ble_eq_true rfl) dX6_rate_37 (fun w1 H locs f_L hne2 hP hS => ?_)
        have f_L : w1 b = .inr (4, [.ref (ad (b + 1)), .ref (ad (b + 5)), .ref (ad (b + 9)), .ref (ad (b + 12)), .ref (ad (b + 13)), .int (iI ((tn : Nat) : Int)), .int (iI ((a : Nat) : Int)), .int (iI ((rb : Nat) : Int)), .int (iI ((stp : Nat) : Int))]) := f_L
        have f_x := (hne2 x (by omega)).trans f_x
        have f_ts := (hne2 (b + 12) (by omega)).trans f_ts
        have hfr : ∀ j, j ≠ b → w1 j = w j := fun j a0 => (hne2 j (by omega)).trans (hfr j a0)
        refine lv_aload_n hx hb dX6_rate_40 rfl (lv_at hl 0 rfl) ?_
        refine n_get hx hb hts u_X6 hown hK hP (by omega) f_x rfl 0 (by decide) (nT_m wf_X6_10) rfl dX6_rate_41 ?_
        refine lv_iload_n hx hb dX6_rate_44 rfl (lv_at hl 2 rfl) ?_
        refine n_put hx hb hts u_X4 tyX4 tyX4_ok nmX4 hown hK hJ hP hS (by omega) f_L rfl 7 (by decide) (nT_m wf_X6_61) rfl rfl rfl (Nat.le_of_ble_eq_true rfl) dX6_rate_45 (fun w3 H locs f_L hne4 hP hS => ?_)
        have f_L : w3 b = .inr (4, [.ref (ad (b + 1)), .ref (ad (b + 5)), .ref (ad (b + 9)), .ref (ad (b + 12)), .ref (ad (b + 13)), .int (iI ((tn : Nat) : Int)), .int (iI ((a : Nat) : Int)), .int (iI ((c : Nat) : Int)), .int (iI ((stp : Nat) : Int))]) := f_L
        have f_x := (hne4 x (by omega)).trans f_x
        have f_ts := (hne4 (b + 12) (by omega)).trans f_ts
        have hfr : ∀ j, j ≠ b → w3 j = w j := fun j a0 => (hne4 j (by omega)).trans (hfr j a0)
        refine n_iconst hx hb dX6_rate_48 ?_
        refine n_zretP (t := True) hQ hx hb hr hlocks rfl hP hS dX6_rate_49 ?_
        exact ⟨hfr, rfl, f_L⟩
      · skip
        exact absurd hc27 (by rw [hno]; decide)
set_option maxHeartbeats 4000000 in
set_option maxRecDepth 100000 in
theorem c_X6_good_no {l : Launch} {G : nG} {N : Nat} {ad : Nat → Nat} {w : Nat → va_E} {sz : Nat} (x b tn ra rb stp : Nat) (gn : Nat) (a c : Int) (hN : x + 218 < N) (hxb : b = x + 1) (hg : gn ≤ 14) (ha : -2147483648 ≤ a ∧ a < 2147483648) (hc : -2147483648 ≤ c ∧ c < 2147483648) (hno : gn = 14 ∨ ¬ (1 ≤ a ∧ a ≤ 10000) ∨ ¬ (0 ≤ c ∧ c ≤ 100)) (f_x : w x = .inr (6, [.ref (ad b), .ref (ad (x + 51)), .ref (ad (x + 52)), .ref (ad (x + 53)), .ref (ad (x + 67)), .ref (ad (x + 68))])) (f_L : w b = .inr (4, [.ref (ad (b + 1)), .ref (ad (b + 5)), .ref (ad (b + 9)), .ref (ad (b + 12)), .ref (ad (b + 13)), .int (iI ((tn : Nat) : Int)), .int (iI ((ra : Nat) : Int)), .int (iI ((rb : Nat) : Int)), .int (iI ((stp : Nat) : Int))])) (f_g : w (b + 9) = .inr (3, [.int (iI ((gn : Nat) : Int)), .ref (ad ((b + 9) + 1)), .ref (ad ((b + 9) + 2))])) : Met l yX6_good wsX6_good ({ frames := 2, cells := 0, slots := 0, locals := 44 }) (va_Pc [.ref (ad x), .int (iI a), .int (iI c)] (nB G N ad w sz)) (nRd (.int (iI (-1)))) 0 0 (fun _ => False) := by
  refine n_ent (cc := cX6_good) (maxL := 3) (ret := (some .int)) (by decide) rfl (Nat.le_of_ble_eq_true rfl) ?_
  intro p e s m below meth cd hx hb hr hml hlocks hts hown hnm hsz hP hK hI Q hQ ls hl
  have hown : s.vm.findClass RX6 = some m.cls := hown
  have hl : lv_has ls 3 [(0, .ref (ad x)), (1, .int (iI a)), (2, .int (iI c))] := hl
  refine lv_aload_n hx hb dX6_good_0 rfl (lv_at hl 0 rfl) ?_
  refine n_get hx hb hts u_X6 hown hK hP (by omega) f_x rfl 0 (by decide) (nT_m wf_X6_10) rfl dX6_good_1 ?_
  refine n_get hx hb hts u_X4 hown hK hP (by omega) f_L rfl 2 (by decide) (nT_m wf_X6_64) rfl dX6_good_4 ?_
  refine lv_iload_n hx hb dX6_good_7 rfl (lv_at hl 1 rfl) ?_
  refine lv_iload_n hx hb dX6_good_8 rfl (lv_at hl 2 rfl) ?_
  refine n_rdF (va_runV (As := [.int (iI a), .int (iI c)]) (rest := []) ⟨hx, hb, hml, hown, hts⟩ (c_X3_add_no _ gn a c (by omega) hg ha hc hno f_g) (cwV 2 hts (nT_V wl_X6_68 wi_X3_add ws_X3_add wn_X3 wc_X3_add) rfl rfl rfl (by decide +kernel) ⟨Nat.le_of_ble_eq_true rfl, Nat.le_of_ble_eq_true rfl⟩) (nB.preV hK hI hP (by omega) f_g rfl rfl) rfl rfl hl.1 rfl (lv_room (Nat.le_of_ble_eq_true rfl)) dX6_good_9 ⟨Nat.zero_le _, Nat.zero_le _⟩) ?_
  exact n_iretR hQ hx hb hr hlocks rfl dX6_good_12
set_option maxHeartbeats 4000000 in
set_option maxRecDepth 100000 in
theorem c_X6_good_yes {l : Launch} {G : nG} {N : Nat} {ad : Nat → Nat} {w : Nat → va_E} {sz : Nat} (x b tn ra rb stp : Nat) (gn : Nat) (gp gt : Nat → Nat) (a c : Nat) (hN : x + 218 < N) (hxb : b = x + 1) (hg : gn < 14) (ha : 1 ≤ a ∧ a ≤ 10000) (hc : c ≤ 100) (hgp : ∀ k, gp k ≤ 10000) (hgt : ∀ k, gt k ≤ 100) (f_x : w x = .inr (6, [.ref (ad b), .ref (ad (x + 51)), .ref (ad (x + 52)), .ref (ad (x + 53)), .ref (ad (x + 67)), .ref (ad (x + 68))])) (f_L : w b = .inr (4, [.ref (ad (b + 1)), .ref (ad (b + 5)), .ref (ad (b + 9)), .ref (ad (b + 12)), .ref (ad (b + 13)), .int (iI ((tn : Nat) : Int)), .int (iI ((ra : Nat) : Int)), .int (iI ((rb : Nat) : Int)), .int (iI ((stp : Nat) : Int))])) (f_g : w (b + 9) = .inr (3, [.int (iI ((gn : Nat) : Int)), .ref (ad ((b + 9) + 1)), .ref (ad ((b + 9) + 2))])) (f_gp : w ((b + 9) + 1) = aI G 14 (fun q => (gp q : Int))) (f_gt : w ((b + 9) + 2) = aI G 14 (fun q => (gt q : Int))) : Met l yX6_good wsX6_good ({ frames := 2, cells := 0, slots := 0, locals := 44 }) (va_Pc [.ref (ad x), .int (iI ((a : Nat) : Int)), .int (iI ((c : Nat) : Int))] (nB G N ad w sz)) (nPi G N ad sz (fun r u => (∀ j, j ≠ (b + 9) → j ≠ ((b + 9) + 1) → j ≠ ((b + 9) + 2) → u j = w j) ∧ (r = gn) ∧ (u (b + 9) = .inr (3, [.int (iI ((gn + 1 : Nat) : Int)), .ref (ad ((b + 9) + 1)), .ref (ad ((b + 9) + 2))])) ∧ (u ((b + 9) + 1) = aI G 14 (fun q => ((va_up gp gn a q : Nat) : Int))) ∧ (u ((b + 9) + 2) = aI G 14 (fun q => ((va_up gt gn c q : Nat) : Int))))) 0 0 (nA N ad sz) := by
  refine n_ent (cc := cX6_good) (maxL := 3) (ret := (some .int)) (by decide) rfl (Nat.le_of_ble_eq_true rfl) ?_
  intro p e s m below meth cd hx hb hr hml hlocks hts hown hnm hsz hP hK hI Q hQ ls hl
  have hown : s.vm.findClass RX6 = some m.cls := hown
  subst hsz
  have hJ := hI.J s.heap.size
  have hS : va_S (nA N ad s.heap.size) s.heap s.heap [] := va_S.rf
  have hfr : ∀ j, j ≠ (b + 9) → j ≠ ((b + 9) + 1) → j ≠ ((b + 9) + 2) → w j = w j := fun _ _ _ _ => rfl
  have hl : lv_has ls 3 [(0, .ref (ad x)), (1, .int (iI ((a : Nat) : Int))), (2, .int (iI ((c : Nat) : Int)))] := hl
  refine lv_aload_n hx hb dX6_good_0 rfl (lv_at hl 0 rfl) ?_
  refine n_get hx hb hts u_X6 hown hK hP (by omega) f_x rfl 0 (by decide) (nT_m wf_X6_10) rfl dX6_good_1 ?_
  refine n_get hx hb hts u_X4 hown hK hP (by omega) f_L rfl 2 (by decide) (nT_m wf_X6_64) rfl dX6_good_4 ?_
  refine lv_iload_n hx hb dX6_good_7 rfl (lv_at hl 1 rfl) ?_
  refine lv_iload_n hx hb dX6_good_8 rfl (lv_at hl 2 rfl) ?_
  refine n_cI (va_runV (As := [.int (iI ((a : Nat) : Int)), .int (iI ((c : Nat) : Int))]) (rest := []) ⟨hx, hb, hml, hown, hts⟩ (c_X3_add_yes _ gn gp gt a c (by omega) hg ha hc hgp hgt f_g f_gp f_gt) (cwV 2 hts (nT_V wl_X6_68 wi_X3_add ws_X3_add wn_X3 wc_X3_add) rfl rfl rfl (by decide +kernel) ⟨Nat.le_of_ble_eq_true rfl, Nat.le_of_ble_eq_true rfl⟩) (nB.preV hK hI hP (by omega) f_g rfl rfl) rfl rfl hl.1 rfl (lv_room (Nat.le_of_ble_eq_true rfl)) dX6_good_9 ⟨Nat.zero_le _, Nat.zero_le _⟩) hS (fun r2 w1 H locs hq3 hP hS => ?_)
  obtain ⟨hne4, hr9, h0, h1, h2⟩ := hq3
  have f_x := (hne4 x (by omega) (by omega) (by omega)).trans f_x
  have f_L := (hne4 b (by omega) (by omega) (by omega)).trans f_L
  have f_g : w1 (b + 9) = .inr (3, [.int (iI ((gn + 1 : Nat) : Int)), .ref (ad ((b + 9) + 1)), .ref (ad ((b + 9) + 2))]) := h0
  have f_gp : w1 ((b + 9) + 1) = aI G 14 (fun q => ((va_up gp gn a q : Nat) : Int)) := h1
  have f_gt : w1 ((b + 9) + 2) = aI G 14 (fun q => ((va_up gt gn c q : Nat) : Int)) := h2
  have hfr : ∀ j, j ≠ (b + 9) → j ≠ ((b + 9) + 1) → j ≠ ((b + 9) + 2) → w1 j = w j := fun j a0 a1 a2 => (hne4 j (by omega) (by omega) (by omega)).trans (hfr j a0 a1 a2)
  refine n_iretP hQ hx hb hr hlocks hP hS dX6_good_12 ?_
  exact ⟨hfr, hr9, f_g, f_gp, f_gt⟩
set_option maxHeartbeats 4000000 in
set_option maxRecDepth 100000 in
theorem c_X6_sold_no {l : Launch} {G : nG} {N : Nat} {ad : Nat → Nat} {w : Nat → va_E} {sz : Nat} (x b tn ra rb stp : Nat) (gn : Nat) (a c : Int) (hN : x + 218 < N) (hxb : b = x + 1) (hg : gn ≤ 14) (ha : -2147483648 ≤ a ∧ a < 2147483648) (hc : -2147483648 ≤ c ∧ c < 2147483648) (hno : ¬ (0 ≤ a ∧ a < gn) ∨ ¬ (0 ≤ c ∧ c ≤ 100)) (f_x : w x = .inr (6, [.ref (ad b), .ref (ad (x + 51)), .ref (ad (x + 52)), .ref (ad (x + 53)), .ref (ad (x + 67)), .ref (ad (x + 68))])) (f_L : w b = .inr (4, [.ref (ad (b + 1)), .ref (ad (b + 5)), .ref (ad (b + 9)), .ref (ad (b + 12)), .ref (ad (b + 13)), .int (iI ((tn : Nat) : Int)), .int (iI ((ra : Nat) : Int)), .int (iI ((rb : Nat) : Int)), .int (iI ((stp : Nat) : Int))])) (f_g : w (b + 9) = .inr (3, [.int (iI ((gn : Nat) : Int)), .ref (ad ((b + 9) + 1)), .ref (ad ((b + 9) + 2))])) : Met l yX6_sold wsX6_sold ({ frames := 2, cells := 0, slots := 0, locals := 43 }) (va_Pc [.ref (ad x), .int (iI a), .int (iI c)] (nB G N ad w sz)) (nRd (.int (iI (bI False)))) 0 0 (fun _ => False) := by
  refine n_ent (cc := cX6_sold) (maxL := 3) (ret := (some .boolean)) (by decide) rfl (Nat.le_of_ble_eq_true rfl) ?_
  intro p e s m below meth cd hx hb hr hml hlocks hts hown hnm hsz hP hK hI Q hQ ls hl
  have hown : s.vm.findClass RX6 = some m.cls := hown
  have hl : lv_has ls 3 [(0, .ref (ad x)), (1, .int (iI a)), (2, .int (iI c))] := hl
  refine lv_aload_n hx hb dX6_sold_0 rfl (lv_at hl 0 rfl) ?_
  refine n_get hx hb hts u_X6 hown hK hP (by omega) f_x rfl 0 (by decide) (nT_m wf_X6_10) rfl dX6_sold_1 ?_
  refine n_get hx hb hts u_X4 hown hK hP (by omega) f_L rfl 2 (by decide) (nT_m wf_X6_64) rfl dX6_sold_4 ?_
  refine lv_iload_n hx hb dX6_sold_7 rfl (lv_at hl 1 rfl) ?_
  refine n_rdF (va_runV (As := [.int (iI a)]) (rest := []) ⟨hx, hb, hml, hown, hts⟩ (c_X3_isGood _ _ a (by omega) (by omega) (by omega) f_g) (cwV 1 hts (nT_V wl_X6_73 wi_X3_isGood ws_X3_isGood wn_X3 wc_X3_isGood) rfl rfl rfl (by decide +kernel) ⟨Nat.le_of_ble_eq_true rfl, Nat.le_of_ble_eq_true rfl⟩) (nB.preV hK hI hP (by omega) f_g rfl rfl) rfl rfl hl.1 rfl (lv_room (Nat.le_of_ble_eq_true rfl)) dX6_sold_8 ⟨Nat.zero_le _, Nat.zero_le _⟩) ?_
  refine n_if_eqB (tgt := 24) hx hb dX6_sold_11 (by decide) (fun hc11 => ?_) (fun hc11 => ?_)
  · skip
    refine n_iconst hx hb dX6_sold_24 ?_
    exact n_zretR hQ hx hb hr hlocks rfl dX6_sold_25
  · skip
    refine n_iconst hx hb dX6_sold_14 ?_
    refine lv_iload_n hx hb dX6_sold_15 rfl (lv_at hl 2 rfl) ?_
    refine n_bipush hx hb dX6_sold_16 (by decide) ?_
    refine n_rdF (va_runS (As := [.int (iI 0), .int (iI c), .int (iI 100)]) (rest := []) ⟨hx, hb, hml, hown, hts⟩ (c_X6_within 0 c 100 (by omega) (by omega) (by omega)) (va_cwS 3 hts (nT_S wl_X6_49 wt_X6_within wn_X6 wc_X6_within) rfl rfl rfl (by decide +kernel) ⟨Nat.le_of_ble_eq_true rfl, Nat.le_of_ble_eq_true rfl⟩) preEq rfl rfl hl.1 rfl (lv_room (Nat.le_of_ble_eq_true rfl)) dX6_sold_18 ⟨Nat.zero_le _, Nat.zero_le _⟩) ?_
    refine n_if_neB (tgt := 26) hx hb dX6_sold_21 (by decide) (fun hc21 => ?_) (fun hc21 => ?_)
    · skip
      omega
    · skip
      refine n_iconst hx hb dX6_sold_24 ?_
      exact n_zretR hQ hx hb hr hlocks rfl dX6_sold_25
set_option maxHeartbeats 4000000 in
set_option maxRecDepth 100000 in
theorem c_X6_sold_yes {l : Launch} {G : nG} {N : Nat} {ad : Nat → Nat} {w : Nat → va_E} {sz : Nat} (x b tn ra rb stp : Nat) (gn : Nat) (gp gt : Nat → Nat) (a c : Nat) (hN : x + 218 < N) (hxb : b = x + 1) (hg : gn ≤ 14) (ha : a < gn) (hc : c ≤ 100) (hgp : ∀ k, gp k ≤ 10000) (hgt : ∀ k, gt k ≤ 100) (f_x : w x = .inr (6, [.ref (ad b), .ref (ad (x + 51)), .ref (ad (x + 52)), .ref (ad (x + 53)), .ref (ad (x + 67)), .ref (ad (x + 68))])) (f_L : w b = .inr (4, [.ref (ad (b + 1)), .ref (ad (b + 5)), .ref (ad (b + 9)), .ref (ad (b + 12)), .ref (ad (b + 13)), .int (iI ((tn : Nat) : Int)), .int (iI ((ra : Nat) : Int)), .int (iI ((rb : Nat) : Int)), .int (iI ((stp : Nat) : Int))])) (f_g : w (b + 9) = .inr (3, [.int (iI ((gn : Nat) : Int)), .ref (ad ((b + 9) + 1)), .ref (ad ((b + 9) + 2))])) (f_gp : w ((b + 9) + 1) = aI G 14 (fun q => (gp q : Int))) (f_gt : w ((b + 9) + 2) = aI G 14 (fun q => (gt q : Int))) : Met l yX6_sold wsX6_sold ({ frames := 2, cells := 0, slots := 0, locals := 43 }) (va_Pc [.ref (ad x), .int (iI ((a : Nat) : Int)), .int (iI ((c : Nat) : Int))] (nB G N ad w sz)) (nPi G N ad sz (fun r u => (∀ j, j ≠ ((b + 9) + 2) → u j = w j) ∧ (r = 1) ∧ (u ((b + 9) + 2) = aI G 14 (fun q => ((va_up gt a c q : Nat) : Int))))) 0 0 (nA N ad sz) := by
  refine n_ent (cc := cX6_sold) (maxL := 3) (ret := (some .boolean)) (by decide) rfl (Nat.le_of_ble_eq_true rfl) ?_
  intro p e s m below meth cd hx hb hr hml hlocks hts hown hnm hsz hP hK hI Q hQ ls hl
  have hown : s.vm.findClass RX6 = some m.cls := hown
  subst hsz
  have hJ := hI.J s.heap.size
  have hS : va_S (nA N ad s.heap.size) s.heap s.heap [] := va_S.rf
  have hfr : ∀ j, j ≠ ((b + 9) + 2) → w j = w j := fun _ _ => rfl
  have hl : lv_has ls 3 [(0, .ref (ad x)), (1, .int (iI ((a : Nat) : Int))), (2, .int (iI ((c : Nat) : Int)))] := hl
  refine lv_aload_n hx hb dX6_sold_0 rfl (lv_at hl 0 rfl) ?_
  refine n_get hx hb hts u_X6 hown hK hP (by omega) f_x rfl 0 (by decide) (nT_m wf_X6_10) rfl dX6_sold_1 ?_
  refine n_get hx hb hts u_X4 hown hK hP (by omega) f_L rfl 2 (by decide) (nT_m wf_X6_64) rfl dX6_sold_4 ?_
  refine lv_iload_n hx hb dX6_sold_7 rfl (lv_at hl 1 rfl) ?_
  refine n_rdF (va_runV (As := [.int (iI ((a : Nat) : Int))]) (rest := []) ⟨hx, hb, hml, hown, hts⟩ (c_X3_isGood _ _ ((a : Nat) : Int) (by omega) (by omega) (by omega) f_g) (cwV 1 hts (nT_V wl_X6_73 wi_X3_isGood ws_X3_isGood wn_X3 wc_X3_isGood) rfl rfl rfl (by decide +kernel) ⟨Nat.le_of_ble_eq_true rfl, Nat.le_of_ble_eq_true rfl⟩) (nB.preV hK hI hP (by omega) f_g rfl rfl) rfl rfl hl.1 rfl (lv_room (Nat.le_of_ble_eq_true rfl)) dX6_sold_8 ⟨Nat.zero_le _, Nat.zero_le _⟩) ?_
  refine n_if_eqB (tgt := 24) hx hb dX6_sold_11 (by decide) (fun hc11 => ?_) (fun hc11 => ?_)
  · skip
    exact absurd hc11 (by omega)
  · skip
    refine n_iconst hx hb dX6_sold_14 ?_
    refine lv_iload_n hx hb dX6_sold_15 rfl (lv_at hl 2 rfl) ?_
    refine n_bipush hx hb dX6_sold_16 (by decide) ?_
    refine n_rdF (va_runS (As := [.int (iI 0), .int (iI ((c : Nat) : Int)), .int (iI 100)]) (rest := []) ⟨hx, hb, hml, hown, hts⟩ (c_X6_within 0 ((c : Nat) : Int) 100 (by omega) (by omega) (by omega)) (va_cwS 3 hts (nT_S wl_X6_49 wt_X6_within wn_X6 wc_X6_within) rfl rfl rfl (by decide +kernel) ⟨Nat.le_of_ble_eq_true rfl, Nat.le_of_ble_eq_true rfl⟩) preEq rfl rfl hl.1 rfl (lv_room (Nat.le_of_ble_eq_true rfl)) dX6_sold_18 ⟨Nat.zero_le _, Nat.zero_le _⟩) ?_
    refine n_if_neB (tgt := 26) hx hb dX6_sold_21 (by decide) (fun hc21 => ?_) (fun hc21 => ?_)
    · skip
      refine lv_aload_n hx hb dX6_sold_26 rfl (lv_at hl 0 rfl) ?_
      refine n_get hx hb hts u_X6 hown hK hP (by omega) f_x rfl 0 (by decide) (nT_m wf_X6_10) rfl dX6_sold_27 ?_
      refine n_get hx hb hts u_X4 hown hK hP (by omega) f_L rfl 2 (by decide) (nT_m wf_X6_64) rfl dX6_sold_30 ?_
      refine n_get hx hb hts u_X3 hown hK hP (by omega) f_g rfl 2 (by decide) (nT_m wf_X6_77) rfl dX6_sold_33 ?_
      refine lv_iload_n hx hb dX6_sold_36 rfl (lv_at hl 1 rfl) ?_
      refine lv_iload_n hx hb dX6_sold_37 rfl (lv_at hl 2 rfl) ?_
      refine n_iast hx hb hK hJ hP hS a (by omega) f_gt (by omega) (by omega) (by decide) dX6_sold_38 (fun w1 H locs f_gt hne2 hP hS => ?_)
      have f_x := (hne2 x (by omega)).trans f_x
      have f_L := (hne2 b (by omega)).trans f_L
      have f_g := (hne2 (b + 9) (by omega)).trans f_g
      have f_gp := (hne2 ((b + 9) + 1) (by omega)).trans f_gp
      have hfr : ∀ j, j ≠ ((b + 9) + 2) → w1 j = w j := fun j a0 => (hne2 j (by omega)).trans (hfr j a0)
      refine n_iconst hx hb dX6_sold_39 ?_
      refine n_zretP (t := True) hQ hx hb hr hlocks rfl hP hS dX6_sold_40 ?_
      exact ⟨hfr, rfl, f_gt.trans (congrArg (aI G 14) (upN gt a c))⟩
    · skip
      exact absurd hc21 (by omega)
set_option maxHeartbeats 4000000 in
set_option maxRecDepth 100000 in
theorem c_X6_step_no {l : Launch} {G : nG} {N : Nat} {ad : Nat → Nat} {w : Nat → va_E} {sz : Nat} (x b tn ra rb stp : Nat) (a : Int) (hN : x + 218 < N) (hxb : b = x + 1) (ha : -2147483648 ≤ a ∧ a < 2147483648) (hno : ¬ (1 ≤ a ∧ a ≤ 100)) (f_x : w x = .inr (6, [.ref (ad b), .ref (ad (x + 51)), .ref (ad (x + 52)), .ref (ad (x + 53)), .ref (ad (x + 67)), .ref (ad (x + 68))])) (f_L : w b = .inr (4, [.ref (ad (b + 1)), .ref (ad (b + 5)), .ref (ad (b + 9)), .ref (ad (b + 12)), .ref (ad (b + 13)), .int (iI ((tn : Nat) : Int)), .int (iI ((ra : Nat) : Int)), .int (iI ((rb : Nat) : Int)), .int (iI ((stp : Nat) : Int))])) : Met l yX6_step wsX6_step ({ frames := 1, cells := 0, slots := 0, locals := 22 }) (va_Pc [.ref (ad x), .int (iI a)] (nB G N ad w sz)) (nRd (.int (iI (bI False)))) 0 0 (fun _ => False) := by
  refine n_ent (cc := cX6_step) (maxL := 2) (ret := (some .boolean)) (by decide) rfl (Nat.le_of_ble_eq_true rfl) ?_
  intro p e s m below meth cd hx hb hr hml hlocks hts hown hnm hsz hP hK hI Q hQ ls hl
  have hown : s.vm.findClass RX6 = some m.cls := hown
  have hl : lv_has ls 2 [(0, .ref (ad x)), (1, .int (iI a))] := hl
  refine n_iconst hx hb dX6_step_0 ?_
  refine lv_iload_n hx hb dX6_step_1 rfl (lv_at hl 1 rfl) ?_
  refine n_bipush hx hb dX6_step_2 (by decide) ?_
  refine n_rdF (va_runS (As := [.int (iI 1), .int (iI a), .int (iI 100)]) (rest := []) ⟨hx, hb, hml, hown, hts⟩ (c_X6_within 1 a 100 (by omega) (by omega) (by omega)) (va_cwS 3 hts (nT_S wl_X6_49 wt_X6_within wn_X6 wc_X6_within) rfl rfl rfl (by decide +kernel) ⟨Nat.le_of_ble_eq_true rfl, Nat.le_of_ble_eq_true rfl⟩) preEq rfl rfl hl.1 rfl (lv_room (Nat.le_of_ble_eq_true rfl)) dX6_step_4 ⟨Nat.zero_le _, Nat.zero_le _⟩) ?_
  refine n_if_neB (tgt := 12) hx hb dX6_step_7 (by decide) (fun hc7 => ?_) (fun hc7 => ?_)
  · skip
    exact absurd hc7 (by omega)
  · skip
    refine n_iconst hx hb dX6_step_10 ?_
    exact n_zretR hQ hx hb hr hlocks rfl dX6_step_11
set_option maxHeartbeats 4000000 in
set_option maxRecDepth 100000 in
theorem c_X6_step_yes {l : Launch} {G : nG} {N : Nat} {ad : Nat → Nat} {w : Nat → va_E} {sz : Nat} (x b tn ra rb stp : Nat) (a : Nat) (hN : x + 218 < N) (hxb : b = x + 1) (ha : 1 ≤ a ∧ a ≤ 100) (f_x : w x = .inr (6, [.ref (ad b), .ref (ad (x + 51)), .ref (ad (x + 52)), .ref (ad (x + 53)), .ref (ad (x + 67)), .ref (ad (x + 68))])) (f_L : w b = .inr (4, [.ref (ad (b + 1)), .ref (ad (b + 5)), .ref (ad (b + 9)), .ref (ad (b + 12)), .ref (ad (b + 13)), .int (iI ((tn : Nat) : Int)), .int (iI ((ra : Nat) : Int)), .int (iI ((rb : Nat) : Int)), .int (iI ((stp : Nat) : Int))])) : Met l yX6_step wsX6_step ({ frames := 1, cells := 0, slots := 0, locals := 22 }) (va_Pc [.ref (ad x), .int (iI ((a : Nat) : Int))] (nB G N ad w sz)) (nPi G N ad sz (fun r u => (∀ j, j ≠ b → u j = w j) ∧ (r = 1) ∧ (u b = .inr (4, [.ref (ad (b + 1)), .ref (ad (b + 5)), .ref (ad (b + 9)), .ref (ad (b + 12)), .ref (ad (b + 13)), .int (iI ((tn : Nat) : Int)), .int (iI ((ra : Nat) : Int)), .int (iI ((rb : Nat) : Int)), .int (iI ((a : Nat) : Int))])))) 0 0 (nA N ad sz) := by
  refine n_ent (cc := cX6_step) (maxL := 2) (ret := (some .boolean)) (by decide) rfl (Nat.le_of_ble_eq_true rfl) ?_
  intro p e s m below meth cd hx hb hr hml hlocks hts hown hnm hsz hP hK hI Q hQ ls hl
  have hown : s.vm.findClass RX6 = some m.cls := hown
  subst hsz
  have hJ := hI.J s.heap.size
  have hS : va_S (nA N ad s.heap.size) s.heap s.heap [] := va_S.rf
  have hfr : ∀ j, j ≠ b → w j = w j := fun _ _ => rfl
  have hl : lv_has ls 2 [(0, .ref (ad x)), (1, .int (iI ((a : Nat) : Int)))] := hl
  refine n_iconst hx hb dX6_step_0 ?_
  refine lv_iload_n hx hb dX6_step_1 rfl (lv_at hl 1 rfl) ?_
  refine n_bipush hx hb dX6_step_2 (by decide) ?_
  refine n_rdF (va_runS (As := [.int (iI 1), .int (iI ((a : Nat) : Int)), .int (iI 100)]) (rest := []) ⟨hx, hb, hml, hown, hts⟩ (c_X6_within 1 ((a : Nat) : Int) 100 (by omega) (by omega) (by omega)) (va_cwS 3 hts (nT_S wl_X6_49 wt_X6_within wn_X6 wc_X6_within) rfl rfl rfl (by decide +kernel) ⟨Nat.le_of_ble_eq_true rfl, Nat.le_of_ble_eq_true rfl⟩) preEq rfl rfl hl.1 rfl (lv_room (Nat.le_of_ble_eq_true rfl)) dX6_step_4 ⟨Nat.zero_le _, Nat.zero_le _⟩) ?_
  refine n_if_neB (tgt := 12) hx hb dX6_step_7 (by decide) (fun hc7 => ?_) (fun hc7 => ?_)
  · skip
    refine lv_aload_n hx hb dX6_step_12 rfl (lv_at hl 0 rfl) ?_
    refine n_get hx hb hts u_X6 hown hK hP (by omega) f_x rfl 0 (by decide) (nT_m wf_X6_10) rfl dX6_step_13 ?_
    refine lv_iload_n hx hb dX6_step_16 rfl (lv_at hl 1 rfl) ?_
    refine n_put hx hb hts u_X4 tyX4 tyX4_ok nmX4 hown hK hJ hP hS (by omega) f_L rfl 8 (by decide) (nT_m wf_X6_80) rfl rfl rfl (Nat.le_of_ble_eq_true rfl) dX6_step_17 (fun w1 H locs f_L hne2 hP hS => ?_)
    have f_L : w1 b = .inr (4, [.ref (ad (b + 1)), .ref (ad (b + 5)), .ref (ad (b + 9)), .ref (ad (b + 12)), .ref (ad (b + 13)), .int (iI ((tn : Nat) : Int)), .int (iI ((ra : Nat) : Int)), .int (iI ((rb : Nat) : Int)), .int (iI ((a : Nat) : Int))]) := f_L
    have f_x := (hne2 x (by omega)).trans f_x
    have hfr : ∀ j, j ≠ b → w1 j = w j := fun j a0 => (hne2 j (by omega)).trans (hfr j a0)
    refine n_iconst hx hb dX6_step_20 ?_
    refine n_zretP (t := True) hQ hx hb hr hlocks rfl hP hS dX6_step_21 ?_
    exact ⟨hfr, rfl, f_L⟩
  · skip
    exact absurd hc7 (by omega)
set_option maxHeartbeats 4000000 in
set_option maxRecDepth 100000 in
theorem c_X6_price_no {l : Launch} {G : nG} {N : Nat} {ad : Nat → Nat} {w : Nat → va_E} {sz : Nat} (x b tn ra rb stp : Nat) (gn : Nat) (a c : Int) (hN : x + 218 < N) (hxb : b = x + 1) (hg : gn ≤ 14) (ha : -2147483648 ≤ a ∧ a < 2147483648) (hc : -2147483648 ≤ c ∧ c < 2147483648) (hno : ¬ (0 ≤ a ∧ a < gn) ∨ ¬ (0 ≤ c ∧ c ≤ 3)) (f_x : w x = .inr (6, [.ref (ad b), .ref (ad (x + 51)), .ref (ad (x + 52)), .ref (ad (x + 53)), .ref (ad (x + 67)), .ref (ad (x + 68))])) (f_L : w b = .inr (4, [.ref (ad (b + 1)), .ref (ad (b + 5)), .ref (ad (b + 9)), .ref (ad (b + 12)), .ref (ad (b + 13)), .int (iI ((tn : Nat) : Int)), .int (iI ((ra : Nat) : Int)), .int (iI ((rb : Nat) : Int)), .int (iI ((stp : Nat) : Int))])) (f_g : w (b + 9) = .inr (3, [.int (iI ((gn : Nat) : Int)), .ref (ad ((b + 9) + 1)), .ref (ad ((b + 9) + 2))])) : Met l yX6_price wsX6_price ({ frames := 2, cells := 0, slots := 0, locals := 49 }) (va_Pc [.ref (ad x), .int (iI a), .int (iI c)] (nB G N ad w sz)) (nRd (.int (iI (-1)))) 0 0 (fun _ => False) := by
  refine n_ent (cc := cX6_price) (maxL := 3) (ret := (some .int)) (by decide) rfl (Nat.le_of_ble_eq_true rfl) ?_
  intro p e s m below meth cd hx hb hr hml hlocks hts hown hnm hsz hP hK hI Q hQ ls hl
  have hown : s.vm.findClass RX6 = some m.cls := hown
  have hl : lv_has ls 3 [(0, .ref (ad x)), (1, .int (iI a)), (2, .int (iI c))] := hl
  refine lv_aload_n hx hb dX6_price_0 rfl (lv_at hl 0 rfl) ?_
  refine n_get hx hb hts u_X6 hown hK hP (by omega) f_x rfl 0 (by decide) (nT_m wf_X6_10) rfl dX6_price_1 ?_
  refine n_get hx hb hts u_X4 hown hK hP (by omega) f_L rfl 2 (by decide) (nT_m wf_X6_64) rfl dX6_price_4 ?_
  refine lv_iload_n hx hb dX6_price_7 rfl (lv_at hl 1 rfl) ?_
  refine n_rdF (va_runV (As := [.int (iI a)]) (rest := []) ⟨hx, hb, hml, hown, hts⟩ (c_X3_isGood _ _ a (by omega) (by omega) (by omega) f_g) (cwV 1 hts (nT_V wl_X6_73 wi_X3_isGood ws_X3_isGood wn_X3 wc_X3_isGood) rfl rfl rfl (by decide +kernel) ⟨Nat.le_of_ble_eq_true rfl, Nat.le_of_ble_eq_true rfl⟩) (nB.preV hK hI hP (by omega) f_g rfl rfl) rfl rfl hl.1 rfl (lv_room (Nat.le_of_ble_eq_true rfl)) dX6_price_8 ⟨Nat.zero_le _, Nat.zero_le _⟩) ?_
  refine n_if_eqB (tgt := 33) hx hb dX6_price_11 (by decide) (fun hc11 => ?_) (fun hc11 => ?_)
  · skip
    refine n_iconst hx hb dX6_price_33 ?_
    exact n_iretR hQ hx hb hr hlocks rfl dX6_price_34
  · skip
    refine lv_iload_n hx hb dX6_price_14 rfl (lv_at hl 2 rfl) ?_
    refine n_rdF (va_runS (As := [.int (iI c)]) (rest := []) ⟨hx, hb, hml, hown, hts⟩ (c_X6_isRule c (by omega)) (va_cwS 1 hts (nT_S wl_X6_83 wt_X6_isRule wn_X6 wc_X6_isRule) rfl rfl rfl (by decide +kernel) ⟨Nat.le_of_ble_eq_true rfl, Nat.le_of_ble_eq_true rfl⟩) preEq rfl rfl hl.1 rfl (lv_room (Nat.le_of_ble_eq_true rfl)) dX6_price_15 ⟨Nat.zero_le _, Nat.zero_le _⟩) ?_
    refine n_if_eqB (tgt := 33) hx hb dX6_price_18 (by decide) (fun hc18 => ?_) (fun hc18 => ?_)
    · skip
      refine n_iconst hx hb dX6_price_33 ?_
      exact n_iretR hQ hx hb hr hlocks rfl dX6_price_34
    · skip
      omega
set_option maxHeartbeats 4000000 in
set_option maxRecDepth 100000 in
theorem c_X6_price_yes {l : Launch} {G : nG} {N : Nat} {ad : Nat → Nat} {w : Nat → va_E} {sz : Nat} (x b tn ra rb stp : Nat) (gn : Nat) (gp gt : Nat → Nat) (a c : Nat) (hN : x + 218 < N) (hxb : b = x + 1) (htn : tn ≤ 4) (hra : 1 ≤ ra ∧ ra ≤ 100) (hrb : 1 ≤ rb ∧ rb ≤ 100) (hst : 1 ≤ stp ∧ stp ≤ 100) (hgp : ∀ k, gp k ≤ 10000) (hgt : ∀ k, gt k ≤ 100) (hg : gn ≤ 14) (ha : a < gn) (hc : c ≤ 3) (f_x : w x = .inr (6, [.ref (ad b), .ref (ad (x + 51)), .ref (ad (x + 52)), .ref (ad (x + 53)), .ref (ad (x + 67)), .ref (ad (x + 68))])) (f_L : w b = .inr (4, [.ref (ad (b + 1)), .ref (ad (b + 5)), .ref (ad (b + 9)), .ref (ad (b + 12)), .ref (ad (b + 13)), .int (iI ((tn : Nat) : Int)), .int (iI ((ra : Nat) : Int)), .int (iI ((rb : Nat) : Int)), .int (iI ((stp : Nat) : Int))])) (f_g : w (b + 9) = .inr (3, [.int (iI ((gn : Nat) : Int)), .ref (ad ((b + 9) + 1)), .ref (ad ((b + 9) + 2))])) (f_gp : w ((b + 9) + 1) = aI G 14 (fun q => (gp q : Int))) (f_gt : w ((b + 9) + 2) = aI G 14 (fun q => (gt q : Int))) : Met l yX6_price wsX6_price ({ frames := 2, cells := 0, slots := 0, locals := 49 }) (va_Pc [.ref (ad x), .int (iI ((a : Nat) : Int)), .int (iI ((c : Nat) : Int))] (nB G N ad w sz)) (nRd (.int (iI ((nPr (gp a * ra) (stp * rb) stp c : Nat) : Int)))) 0 0 (fun _ => False) := by
  refine n_ent (cc := cX6_price) (maxL := 3) (ret := (some .int)) (by decide) rfl (Nat.le_of_ble_eq_true rfl) ?_
  intro p e s m below meth cd hx hb hr hml hlocks hts hown hnm hsz hP hK hI Q hQ ls hl
  have hown : s.vm.findClass RX6 = some m.cls := hown
  have hl : lv_has ls 3 [(0, .ref (ad x)), (1, .int (iI ((a : Nat) : Int))), (2, .int (iI ((c : Nat) : Int)))] := hl
  refine lv_aload_n hx hb dX6_price_0 rfl (lv_at hl 0 rfl) ?_
  refine n_get hx hb hts u_X6 hown hK hP (by omega) f_x rfl 0 (by decide) (nT_m wf_X6_10) rfl dX6_price_1 ?_
  refine n_get hx hb hts u_X4 hown hK hP (by omega) f_L rfl 2 (by decide) (nT_m wf_X6_64) rfl dX6_price_4 ?_
  refine lv_iload_n hx hb dX6_price_7 rfl (lv_at hl 1 rfl) ?_
  refine n_rdF (va_runV (As := [.int (iI ((a : Nat) : Int))]) (rest := []) ⟨hx, hb, hml, hown, hts⟩ (c_X3_isGood _ _ ((a : Nat) : Int) (by omega) (by omega) (by omega) f_g) (cwV 1 hts (nT_V wl_X6_73 wi_X3_isGood ws_X3_isGood wn_X3 wc_X3_isGood) rfl rfl rfl (by decide +kernel) ⟨Nat.le_of_ble_eq_true rfl, Nat.le_of_ble_eq_true rfl⟩) (nB.preV hK hI hP (by omega) f_g rfl rfl) rfl rfl hl.1 rfl (lv_room (Nat.le_of_ble_eq_true rfl)) dX6_price_8 ⟨Nat.zero_le _, Nat.zero_le _⟩) ?_
  refine n_if_eqB (tgt := 33) hx hb dX6_price_11 (by decide) (fun hc11 => ?_) (fun hc11 => ?_)
  · skip
    exact absurd hc11 (by omega)
  · skip
    refine lv_iload_n hx hb dX6_price_14 rfl (lv_at hl 2 rfl) ?_
    refine n_rdF (va_runS (As := [.int (iI ((c : Nat) : Int))]) (rest := []) ⟨hx, hb, hml, hown, hts⟩ (c_X6_isRule ((c : Nat) : Int) (by omega)) (va_cwS 1 hts (nT_S wl_X6_83 wt_X6_isRule wn_X6 wc_X6_isRule) rfl rfl rfl (by decide +kernel) ⟨Nat.le_of_ble_eq_true rfl, Nat.le_of_ble_eq_true rfl⟩) preEq rfl rfl hl.1 rfl (lv_room (Nat.le_of_ble_eq_true rfl)) dX6_price_15 ⟨Nat.zero_le _, Nat.zero_le _⟩) ?_
    refine n_if_eqB (tgt := 33) hx hb dX6_price_18 (by decide) (fun hc18 => ?_) (fun hc18 => ?_)
    · skip
      exact absurd hc18 (by omega)
    · skip
      refine lv_aload_n hx hb dX6_price_21 rfl (lv_at hl 0 rfl) ?_
      refine n_get hx hb hts u_X6 hown hK hP (by omega) f_x rfl 0 (by decide) (nT_m wf_X6_10) rfl dX6_price_22 ?_
      refine lv_iload_n hx hb dX6_price_25 rfl (lv_at hl 1 rfl) ?_
      refine lv_iload_n hx hb dX6_price_26 rfl (lv_at hl 2 rfl) ?_
      refine n_rdF (va_runV (As := [.int (iI ((a : Nat) : Int)), .int (iI ((c : Nat) : Int))]) (rest := []) ⟨hx, hb, hml, hown, hts⟩ (c_X4_newPrice _ _ _ _ _ _ gp gt a c (by omega) htn hra hrb hst hgp hgt (by omega) (by omega) f_L f_g f_gp) (cwV 2 hts (nT_V wl_X6_86 wi_X4_newPrice ws_X4_newPrice wn_X4 wc_X4_newPrice) rfl rfl rfl (by decide +kernel) ⟨Nat.le_of_ble_eq_true rfl, Nat.le_of_ble_eq_true rfl⟩) (nB.preV hK hI hP (by omega) f_L rfl rfl) rfl rfl hl.1 rfl (lv_room (Nat.le_of_ble_eq_true rfl)) dX6_price_27 ⟨Nat.zero_le _, Nat.zero_le _⟩) ?_
      have hnp := nPr_rng (sp := stp * rb) (ru := c) (Nat.mul_le_mul (hgp a) hra.2) hst.2
      refine lv_goto (tgt := 34) hx hb dX6_price_30 (by decide) ?_
      exact n_iretR hQ hx hb hr hlocks rfl dX6_price_34
set_option maxHeartbeats 4000000 in
set_option maxRecDepth 100000 in
theorem c_X6_gain_no {l : Launch} {G : nG} {N : Nat} {ad : Nat → Nat} {w : Nat → va_E} {sz : Nat} (x b tn ra rb stp : Nat) (a : Int) (hN : x + 218 < N) (hxb : b = x + 1) (ha : -2147483648 ≤ a ∧ a < 2147483648) (hno : ¬ (0 ≤ a ∧ a ≤ 3)) (f_x : w x = .inr (6, [.ref (ad b), .ref (ad (x + 51)), .ref (ad (x + 52)), .ref (ad (x + 53)), .ref (ad (x + 67)), .ref (ad (x + 68))])) (f_L : w b = .inr (4, [.ref (ad (b + 1)), .ref (ad (b + 5)), .ref (ad (b + 9)), .ref (ad (b + 12)), .ref (ad (b + 13)), .int (iI ((tn : Nat) : Int)), .int (iI ((ra : Nat) : Int)), .int (iI ((rb : Nat) : Int)), .int (iI ((stp : Nat) : Int))])) : Met l yX6_gain wsX6_gain ({ frames := 3, cells := 0, slots := 0, locals := 73 }) (va_Pc [.ref (ad x), .int (iI a)] (nB G N ad w sz)) (nRd (.long (jI 0))) 0 0 (fun _ => False) := by
  refine n_ent (cc := cX6_gain) (maxL := 5) (ret := (some .long)) (by decide) rfl (Nat.le_of_ble_eq_true rfl) ?_
  intro p e s m below meth cd hx hb hr hml hlocks hts hown hnm hsz hP hK hI Q hQ ls hl
  have hown : s.vm.findClass RX6 = some m.cls := hown
  have hl : lv_has ls 5 [(0, .ref (ad x)), (1, .int (iI a))] := hl
  refine n_lconst (z := 0) hx hb dX6_gain_0 (by decide) ?_
  refine lv_lstore_n (lv' := [(2, .long (jI 0)), (0, .ref (ad x)), (1, .int (iI a))]) hx hb dX6_gain_1 rfl hl (by decide) rfl (fun ls hl => ?_)
  refine lv_iload_n hx hb dX6_gain_2 rfl (lv_at hl 2 rfl) ?_
  refine n_rdF (va_runS (As := [.int (iI a)]) (rest := []) ⟨hx, hb, hml, hown, hts⟩ (c_X6_isRule a (by omega)) (va_cwS 1 hts (nT_S wl_X6_83 wt_X6_isRule wn_X6 wc_X6_isRule) rfl rfl rfl (by decide +kernel) ⟨Nat.le_of_ble_eq_true rfl, Nat.le_of_ble_eq_true rfl⟩) preEq rfl rfl hl.1 rfl (lv_room (Nat.le_of_ble_eq_true rfl)) dX6_gain_3 ⟨Nat.zero_le _, Nat.zero_le _⟩) ?_
  refine n_if_eqB (tgt := 46) hx hb dX6_gain_6 (by decide) (fun hc6 => ?_) (fun hc6 => ?_)
  · skip
    refine lv_lload_n hx hb dX6_gain_46 rfl (lv_at hl 0 rfl) ?_
    exact n_lretR hQ hx hb hr hlocks rfl dX6_gain_47
  · skip
    exact absurd hc6 (by omega)
set_option maxHeartbeats 4000000 in
set_option maxRecDepth 100000 in
theorem c_X6_gain_yes {l : Launch} {G : nG} {N : Nat} {ad : Nat → Nat} {w : Nat → va_E} {sz : Nat} (x b tn ra rb stp : Nat) (gn : Nat) (gp gt : Nat → Nat) (a : Nat) (hN : x + 218 < N) (hxb : b = x + 1) (htn : tn ≤ 4) (hra : 1 ≤ ra ∧ ra ≤ 100) (hrb : 1 ≤ rb ∧ rb ≤ 100) (hst : 1 ≤ stp ∧ stp ≤ 100) (hgp : ∀ k, gp k ≤ 10000) (hgt : ∀ k, gt k ≤ 100) (hg : gn ≤ 14) (ha : a ≤ 3) (f_x : w x = .inr (6, [.ref (ad b), .ref (ad (x + 51)), .ref (ad (x + 52)), .ref (ad (x + 53)), .ref (ad (x + 67)), .ref (ad (x + 68))])) (f_L : w b = .inr (4, [.ref (ad (b + 1)), .ref (ad (b + 5)), .ref (ad (b + 9)), .ref (ad (b + 12)), .ref (ad (b + 13)), .int (iI ((tn : Nat) : Int)), .int (iI ((ra : Nat) : Int)), .int (iI ((rb : Nat) : Int)), .int (iI ((stp : Nat) : Int))])) (f_g : w (b + 9) = .inr (3, [.int (iI ((gn : Nat) : Int)), .ref (ad ((b + 9) + 1)), .ref (ad ((b + 9) + 2))])) (f_gp : w ((b + 9) + 1) = aI G 14 (fun q => (gp q : Int))) (f_gt : w ((b + 9) + 2) = aI G 14 (fun q => (gt q : Int))) : Met l yX6_gain wsX6_gain ({ frames := 3, cells := 0, slots := 0, locals := 73 }) (va_Pc [.ref (ad x), .int (iI ((a : Nat) : Int))] (nB G N ad w sz)) (nRd (.long (jI (sumI (fun g9 => gnV gp gt ra rb stp g9 a) gn)))) 0 0 (fun _ => False) := by
  refine n_ent (cc := cX6_gain) (maxL := 5) (ret := (some .long)) (by decide) rfl (Nat.le_of_ble_eq_true rfl) ?_
  intro p e s m below meth cd hx hb hr hml hlocks hts hown hnm hsz hP hK hI Q hQ ls hl
  have hown : s.vm.findClass RX6 = some m.cls := hown
  have hl : lv_has ls 5 [(0, .ref (ad x)), (1, .int (iI ((a : Nat) : Int)))] := hl
  refine n_lconst (z := 0) hx hb dX6_gain_0 (by decide) ?_
  refine lv_lstore_n (lv' := [(2, .long (jI 0)), (0, .ref (ad x)), (1, .int (iI ((a : Nat) : Int)))]) hx hb dX6_gain_1 rfl hl (by decide) rfl (fun ls hl => ?_)
  refine lv_iload_n hx hb dX6_gain_2 rfl (lv_at hl 2 rfl) ?_
  refine n_rdF (va_runS (As := [.int (iI ((a : Nat) : Int))]) (rest := []) ⟨hx, hb, hml, hown, hts⟩ (c_X6_isRule ((a : Nat) : Int) (by omega)) (va_cwS 1 hts (nT_S wl_X6_83 wt_X6_isRule wn_X6 wc_X6_isRule) rfl rfl rfl (by decide +kernel) ⟨Nat.le_of_ble_eq_true rfl, Nat.le_of_ble_eq_true rfl⟩) preEq rfl rfl hl.1 rfl (lv_room (Nat.le_of_ble_eq_true rfl)) dX6_gain_3 ⟨Nat.zero_le _, Nat.zero_le _⟩) ?_
  refine n_if_eqB (tgt := 46) hx hb dX6_gain_6 (by decide) (fun hc6 => ?_) (fun hc6 => ?_)
  · skip
    exact absurd hc6 (by omega)
  · skip
    refine n_iconst hx hb dX6_gain_9 ?_
    refine lv_istore (lv' := [(4, .int (iI 0)), (2, .long (jI 0)), (0, .ref (ad x)), (1, .int (iI ((a : Nat) : Int)))]) hx hb dX6_gain_10 hl (by decide) rfl (fun ls hl => ?_)
    have lp1 : ∀ (fu : Nat), ∀ (q : Nat), ∀ (ls : Array Slot), gn - q < fu → q ≤ gn → lv_has ls 5 [(0, .ref (ad x)), (1, .int (iI ((a : Nat) : Int))), (2, .long (jI (sumI (fun g9 => gnV gp gt ra rb stp g9 a) q))), (4, .int (iI ((q : Nat) : Int)))] → W p l e ({ frames := 3, cells := 0, slots := 0, locals := 73 } : Room) s m ([.ref (ad x), .int (iI ((a : Nat) : Int))] : List Value).toArray below meth cd s.heap [] 0 0 Q (F0 m 12 ls []) := by
      intro fu
      induction fu with
      | zero =>
        intro q ls hfu hq hl
        exact absurd hfu (Nat.not_lt_zero _)
      | succ fu ih2 =>
        intro q ls hfu hq hl
        refine lv_iload hx hb dX6_gain_12 (lv_at hl 3 rfl) ?_
        refine lv_aload_n hx hb dX6_gain_14 rfl (lv_at hl 0 rfl) ?_
        refine n_get hx hb hts u_X6 hown hK hP (by omega) f_x rfl 0 (by decide) (nT_m wf_X6_10) rfl dX6_gain_15 ?_
        refine n_get hx hb hts u_X4 hown hK hP (by omega) f_L rfl 2 (by decide) (nT_m wf_X6_64) rfl dX6_gain_18 ?_
        refine n_get hx hb hts u_X3 hown hK hP (by omega) f_g rfl 0 (by decide) (nT_m wf_X6_89) rfl dX6_gain_21 ?_
        refine n_icmp_ge (tgt := 46) hx hb dX6_gain_24 (by decide) (by omega) (by omega) (fun hc24 => ?_) (fun hc24 => ?_)
        · skip
          refine lv_lload_n hx hb dX6_gain_46 rfl (lv_at hl 2 rfl) ?_
          exact n_lretR hQ hx hb hr hlocks (by rw [show q = gn by omega]) dX6_gain_47
        · skip
          refine lv_lload_n hx hb dX6_gain_27 rfl (lv_at hl 2 rfl) ?_
          refine lv_aload_n hx hb dX6_gain_28 rfl (lv_at hl 0 rfl) ?_
          refine n_get hx hb hts u_X6 hown hK hP (by omega) f_x rfl 0 (by decide) (nT_m wf_X6_10) rfl dX6_gain_29 ?_
          refine lv_iload hx hb dX6_gain_32 (lv_at hl 3 rfl) ?_
          refine lv_iload_n hx hb dX6_gain_34 rfl (lv_at hl 1 rfl) ?_
          refine n_rdF (va_runV (As := [.int (iI ((q : Nat) : Int)), .int (iI ((a : Nat) : Int))]) (rest := [.long (jI (sumI (fun g9 => gnV gp gt ra rb stp g9 a) q))]) ⟨hx, hb, hml, hown, hts⟩ (c_X4_gainOf _ _ _ _ _ _ gp gt q a (by omega) htn hra hrb hst hgp hgt (by omega) (by omega) f_L f_g f_gp f_gt) (cwV 2 hts (nT_V wl_X6_92 wi_X4_gainOf ws_X4_gainOf wn_X4 wc_X4_gainOf) rfl rfl rfl (by decide +kernel) ⟨Nat.le_of_ble_eq_true rfl, Nat.le_of_ble_eq_true rfl⟩) (nB.preV hK hI hP (by omega) f_L rfl rfl) rfl rfl hl.1 rfl (lv_room (Nat.le_of_ble_eq_true rfl)) dX6_gain_35 ⟨Nat.zero_le _, Nat.zero_le _⟩) ?_
          refine n_ladd hx hb dX6_gain_38 ?_
          refine lv_lstore_n (lv' := [(2, .long (jI (sumI (fun g9 => gnV gp gt ra rb stp g9 a) q + (((nPr (gp q * ra) (stp * rb) stp a : Nat) : Int) * ((rb : Nat) : Int) - (gp q : Int) * ((ra : Nat) : Int)) * (gt q : Int)))), (0, .ref (ad x)), (1, .int (iI ((a : Nat) : Int))), (4, .int (iI ((q : Nat) : Int)))]) hx hb dX6_gain_39 rfl hl (by decide) rfl (fun ls hl => ?_)
          refine lv_iinc (v := iI (((q : Nat) : Int) + 1)) (lv' := [(4, .int (iI (((q : Nat) : Int) + 1))), (2, .long (jI (sumI (fun g9 => gnV gp gt ra rb stp g9 a) q + (((nPr (gp q * ra) (stp * rb) stp a : Nat) : Int) * ((rb : Nat) : Int) - (gp q : Int) * ((ra : Nat) : Int)) * (gt q : Int)))), (0, .ref (ad x)), (1, .int (iI ((a : Nat) : Int)))]) hx hb dX6_gain_40 hl (k := 3) rfl (by first | exact iI_add _ _ | exact (iI_add _ _).trans (congrArg iI (by omega))) (by decide) rfl (fun ls hl => ?_)
          refine lv_goto (tgt := 12) hx hb dX6_gain_43 (by decide) ?_
          exact ih2 (q + 1) _ (by omega) (by omega) (by first | exact lv_sub hl [2, 3, 1, 0] rfl | exact lv_cast (lv_sub (l' := [(0, .ref (ad x)), (1, .int (iI ((a : Nat) : Int))), (2, .long (jI (sumI (fun g9 => gnV gp gt ra rb stp g9 a) q + (((nPr (gp q * ra) (stp * rb) stp a : Nat) : Int) * ((rb : Nat) : Int) - (gp q : Int) * ((ra : Nat) : Int)) * (gt q : Int)))), (4, .int (iI (((q : Nat) : Int) + 1)))]) hl [2, 3, 1, 0] rfl) (lc_s (lc_s (lc_j (show ((sumI (fun g9 => gnV gp gt ra rb stp g9 a) q + (((nPr (gp q * ra) (stp * rb) stp a : Nat) : Int) * ((rb : Nat) : Int) - (gp q : Int) * ((ra : Nat) : Int)) * (gt q : Int)) : Int) = sumI (fun g9 => gnV gp gt ra rb stp g9 a) (q + 1) by rfl) (lc_i (show ((((q : Nat) : Int) + 1) : Int) = (((q + 1) : Nat) : Int) by omega) rfl)))))
    exact lp1 (gn - 0 + 1) 0 _ (Nat.lt_succ_self _) (by omega) (by first | exact lv_sub hl [2, 3, 1, 0] rfl | exact lv_cast (lv_sub (l' := [(0, .ref (ad x)), (1, .int (iI ((a : Nat) : Int))), (2, .long (jI 0)), (4, .int (iI 0))]) hl [2, 3, 1, 0] rfl) (lc_s (lc_s (lc_j (show (0 : Int) = sumI (fun g9 => gnV gp gt ra rb stp g9 a) 0 by omega) (lc_i (show (0 : Int) = ((0 : Nat) : Int) by omega) rfl)))))
set_option maxHeartbeats 4000000 in
set_option maxRecDepth 100000 in
theorem c_X6_gains {l : Launch} {G : nG} {N : Nat} {ad : Nat → Nat} {w : Nat → va_E} {sz : Nat} (x b tn ra rb stp : Nat) (gn : Nat) (gp gt : Nat → Nat) (z : Int) (hN : x + 218 < N) (hxb : b = x + 1) (htn : tn ≤ 4) (hra : 1 ≤ ra ∧ ra ≤ 100) (hrb : 1 ≤ rb ∧ rb ≤ 100) (hst : 1 ≤ stp ∧ stp ≤ 100) (hgp : ∀ k, gp k ≤ 10000) (hgt : ∀ k, gt k ≤ 100) (hg : gn ≤ 14) (hz : -2147483648 ≤ z ∧ z < 2147483648) (f_x : w x = .inr (6, [.ref (ad b), .ref (ad (x + 51)), .ref (ad (x + 52)), .ref (ad (x + 53)), .ref (ad (x + 67)), .ref (ad (x + 68))])) (f_L : w b = .inr (4, [.ref (ad (b + 1)), .ref (ad (b + 5)), .ref (ad (b + 9)), .ref (ad (b + 12)), .ref (ad (b + 13)), .int (iI ((tn : Nat) : Int)), .int (iI ((ra : Nat) : Int)), .int (iI ((rb : Nat) : Int)), .int (iI ((stp : Nat) : Int))])) (f_g : w (b + 9) = .inr (3, [.int (iI ((gn : Nat) : Int)), .ref (ad ((b + 9) + 1)), .ref (ad ((b + 9) + 2))])) (f_gp : w ((b + 9) + 1) = aI G 14 (fun q => (gp q : Int))) (f_gt : w ((b + 9) + 2) = aI G 14 (fun q => (gt q : Int))) : Met l yX6_gains wsX6_gains ({ frames := 3, cells := 0, slots := 0, locals := 73 }) (va_Pc [.ref (ad x), .int (iI z)] (nB G N ad w sz)) (nRd (.long (jI (sumI (fun g9 => gnV gp gt ra rb stp g9 (if bt z g9 = 1 then 1 else 0)) gn)))) 0 0 (fun _ => False) := by
  refine n_ent (cc := cX6_gains) (maxL := 6) (ret := (some .long)) (by decide) rfl (Nat.le_of_ble_eq_true rfl) ?_
  intro p e s m below meth cd hx hb hr hml hlocks hts hown hnm hsz hP hK hI Q hQ ls hl
  have hown : s.vm.findClass RX6 = some m.cls := hown
  have hl : lv_has ls 6 [(0, .ref (ad x)), (1, .int (iI z))] := hl
  refine n_lconst (z := 0) hx hb dX6_gains_0 (by decide) ?_
  refine lv_lstore_n (lv' := [(2, .long (jI 0)), (0, .ref (ad x)), (1, .int (iI z))]) hx hb dX6_gains_1 rfl hl (by decide) rfl (fun ls hl => ?_)
  refine n_iconst hx hb dX6_gains_2 ?_
  refine lv_istore (lv' := [(4, .int (iI 0)), (2, .long (jI 0)), (0, .ref (ad x)), (1, .int (iI z))]) hx hb dX6_gains_3 hl (by decide) rfl (fun ls hl => ?_)
  have lp1 : ∀ (fu : Nat), ∀ (q : Nat), ∀ (ls : Array Slot), gn - q < fu → q ≤ gn → lv_has ls 6 [(0, .ref (ad x)), (1, .int (iI z)), (2, .long (jI (sumI (fun g9 => gnV gp gt ra rb stp g9 (if bt z g9 = 1 then 1 else 0)) q))), (4, .int (iI ((q : Nat) : Int)))] → W p l e ({ frames := 3, cells := 0, slots := 0, locals := 73 } : Room) s m ([.ref (ad x), .int (iI z)] : List Value).toArray below meth cd s.heap [] 0 0 Q (F0 m 5 ls []) := by
    intro fu
    induction fu with
    | zero =>
      intro q ls hfu hq hl
      exact absurd hfu (Nat.not_lt_zero _)
    | succ fu ih2 =>
      intro q ls hfu hq hl
      refine lv_iload hx hb dX6_gains_5 (lv_at hl 3 rfl) ?_
      refine lv_aload_n hx hb dX6_gains_7 rfl (lv_at hl 0 rfl) ?_
      refine n_get hx hb hts u_X6 hown hK hP (by omega) f_x rfl 0 (by decide) (nT_m wf_X6_10) rfl dX6_gains_8 ?_
      refine n_get hx hb hts u_X4 hown hK hP (by omega) f_L rfl 2 (by decide) (nT_m wf_X6_64) rfl dX6_gains_11 ?_
      refine n_get hx hb hts u_X3 hown hK hP (by omega) f_g rfl 0 (by decide) (nT_m wf_X6_89) rfl dX6_gains_14 ?_
      refine n_icmp_ge (tgt := 65) hx hb dX6_gains_17 (by decide) (by omega) (by omega) (fun hc17 => ?_) (fun hc17 => ?_)
      · skip
        refine lv_lload_n hx hb dX6_gains_65 rfl (lv_at hl 2 rfl) ?_
        exact n_lretR hQ hx hb hr hlocks (by rw [show q = gn by omega]) dX6_gains_66
      · skip
        refine lv_iload_n hx hb dX6_gains_20 rfl (lv_at hl 1 rfl) ?_
        refine lv_iload hx hb dX6_gains_21 (lv_at hl 3 rfl) ?_
        refine n_ishr hx hb q dX6_gains_23 (by omega) (by omega) ?_
        refine n_iconst hx hb dX6_gains_24 ?_
        refine n_bit hx hb q dX6_gains_25 (by omega) (by omega) ?_
        have hbt := bt_rng z q
        refine n_iconst hx hb dX6_gains_26 ?_
        refine n_icmp_ne (tgt := 34) hx hb dX6_gains_27 (by decide) (by omega) (by omega) (fun hc27 => ?_) (fun hc27 => ?_)
        · skip
          refine n_iconst hx hb dX6_gains_34 ?_
          refine lv_istore (lv' := [(5, .int (iI 0)), (0, .ref (ad x)), (1, .int (iI z)), (2, .long (jI (sumI (fun g9 => gnV gp gt ra rb stp g9 (if bt z g9 = 1 then 1 else 0)) q))), (4, .int (iI ((q : Nat) : Int)))]) hx hb dX6_gains_35 hl (by decide) rfl (fun ls hl => ?_)
          refine lv_lload_n hx hb dX6_gains_37 rfl (lv_at hl 3 rfl) ?_
          refine lv_aload_n hx hb dX6_gains_38 rfl (lv_at hl 1 rfl) ?_
          refine n_get hx hb hts u_X6 hown hK hP (by omega) f_x rfl 0 (by decide) (nT_m wf_X6_10) rfl dX6_gains_39 ?_
          refine lv_iload hx hb dX6_gains_42 (lv_at hl 4 rfl) ?_
          refine lv_iload hx hb dX6_gains_44 (lv_at hl 0 rfl) ?_
          refine n_if_eq (tgt := 53) hx hb dX6_gains_46 (by decide) (by omega) (fun hc46 => ?_) (fun hc46 => ?_)
          · skip
            refine n_iconst hx hb dX6_gains_53 ?_
            refine n_rdF (va_runV (As := [.int (iI ((q : Nat) : Int)), .int (iI 0)]) (rest := [.long (jI (sumI (fun g9 => gnV gp gt ra rb stp g9 (if bt z g9 = 1 then 1 else 0)) q))]) ⟨hx, hb, hml, hown, hts⟩ (c_X4_gainOf _ _ _ _ _ _ gp gt q 0 (by omega) htn hra hrb hst hgp hgt (by omega) (by omega) f_L f_g f_gp f_gt) (cwV 2 hts (nT_V wl_X6_92 wi_X4_gainOf ws_X4_gainOf wn_X4 wc_X4_gainOf) rfl rfl rfl (by decide +kernel) ⟨Nat.le_of_ble_eq_true rfl, Nat.le_of_ble_eq_true rfl⟩) (nB.preV hK hI hP (by omega) f_L rfl rfl) rfl rfl hl.1 rfl (lv_room (Nat.le_of_ble_eq_true rfl)) dX6_gains_54 ⟨Nat.zero_le _, Nat.zero_le _⟩) ?_
            refine n_ladd hx hb dX6_gains_57 ?_
            refine lv_lstore_n (lv' := [(2, .long (jI (sumI (fun g9 => gnV gp gt ra rb stp g9 (if bt z g9 = 1 then 1 else 0)) q + (((nPr (gp q * ra) (stp * rb) stp 0 : Nat) : Int) * ((rb : Nat) : Int) - (gp q : Int) * ((ra : Nat) : Int)) * (gt q : Int)))), (5, .int (iI 0)), (0, .ref (ad x)), (1, .int (iI z)), (4, .int (iI ((q : Nat) : Int)))]) hx hb dX6_gains_58 rfl hl (by decide) rfl (fun ls hl => ?_)
            refine lv_iinc (v := iI (((q : Nat) : Int) + 1)) (lv' := [(4, .int (iI (((q : Nat) : Int) + 1))), (2, .long (jI (sumI (fun g9 => gnV gp gt ra rb stp g9 (if bt z g9 = 1 then 1 else 0)) q + (((nPr (gp q * ra) (stp * rb) stp 0 : Nat) : Int) * ((rb : Nat) : Int) - (gp q : Int) * ((ra : Nat) : Int)) * (gt q : Int)))), (5, .int (iI 0)), (0, .ref (ad x)), (1, .int (iI z))]) hx hb dX6_gains_59 hl (k := 4) rfl (by first | exact iI_add _ _ | exact (iI_add _ _).trans (congrArg iI (by omega))) (by decide) rfl (fun ls hl => ?_)
            refine lv_goto (tgt := 5) hx hb dX6_gains_62 (by decide) ?_
            exact ih2 (q + 1) _ (by omega) (by omega) (by first | exact lv_sub hl [3, 4, 1, 0] rfl | exact lv_cast (lv_sub (l' := [(0, .ref (ad x)), (1, .int (iI z)), (2, .long (jI (sumI (fun g9 => gnV gp gt ra rb stp g9 (if bt z g9 = 1 then 1 else 0)) q + (((nPr (gp q * ra) (stp * rb) stp 0 : Nat) : Int) * ((rb : Nat) : Int) - (gp q : Int) * ((ra : Nat) : Int)) * (gt q : Int)))), (4, .int (iI (((q : Nat) : Int) + 1)))]) hl [3, 4, 1, 0] rfl) (lc_s (lc_s (lc_j (show ((sumI (fun g9 => gnV gp gt ra rb stp g9 (if bt z g9 = 1 then 1 else 0)) q + (((nPr (gp q * ra) (stp * rb) stp 0 : Nat) : Int) * ((rb : Nat) : Int) - (gp q : Int) * ((ra : Nat) : Int)) * (gt q : Int)) : Int) = sumI (fun g9 => gnV gp gt ra rb stp g9 (if bt z g9 = 1 then 1 else 0)) (q + 1) by (show sumI (fun g9 => gnV gp gt ra rb stp g9 (if bt z g9 = 1 then 1 else 0)) q + gnV gp gt ra rb stp q 0 = sumI (fun g9 => gnV gp gt ra rb stp g9 (if bt z g9 = 1 then 1 else 0)) q + gnV gp gt ra rb stp q (if bt z q = 1 then 1 else 0); rw [if_neg hc27])) (lc_i (show ((((q : Nat) : Int) + 1) : Int) = (((q + 1) : Nat) : Int) by omega) rfl)))))
          · skip
            exact absurd hc46 (by omega)
        · skip
          refine n_iconst hx hb dX6_gains_30 ?_
          refine lv_goto (tgt := 35) hx hb dX6_gains_31 (by decide) ?_
          refine lv_istore (lv' := [(5, .int (iI 1)), (0, .ref (ad x)), (1, .int (iI z)), (2, .long (jI (sumI (fun g9 => gnV gp gt ra rb stp g9 (if bt z g9 = 1 then 1 else 0)) q))), (4, .int (iI ((q : Nat) : Int)))]) hx hb dX6_gains_35 hl (by decide) rfl (fun ls hl => ?_)
          refine lv_lload_n hx hb dX6_gains_37 rfl (lv_at hl 3 rfl) ?_
          refine lv_aload_n hx hb dX6_gains_38 rfl (lv_at hl 1 rfl) ?_
          refine n_get hx hb hts u_X6 hown hK hP (by omega) f_x rfl 0 (by decide) (nT_m wf_X6_10) rfl dX6_gains_39 ?_
          refine lv_iload hx hb dX6_gains_42 (lv_at hl 4 rfl) ?_
          refine lv_iload hx hb dX6_gains_44 (lv_at hl 0 rfl) ?_
          refine n_if_eq (tgt := 53) hx hb dX6_gains_46 (by decide) (by omega) (fun hc46 => ?_) (fun hc46 => ?_)
          · skip
            exact absurd hc46 (by omega)
          · skip
            refine n_iconst hx hb dX6_gains_49 ?_
            refine lv_goto (tgt := 54) hx hb dX6_gains_50 (by decide) ?_
            refine n_rdF (va_runV (As := [.int (iI ((q : Nat) : Int)), .int (iI 1)]) (rest := [.long (jI (sumI (fun g9 => gnV gp gt ra rb stp g9 (if bt z g9 = 1 then 1 else 0)) q))]) ⟨hx, hb, hml, hown, hts⟩ (c_X4_gainOf _ _ _ _ _ _ gp gt q 1 (by omega) htn hra hrb hst hgp hgt (by omega) (by omega) f_L f_g f_gp f_gt) (cwV 2 hts (nT_V wl_X6_92 wi_X4_gainOf ws_X4_gainOf wn_X4 wc_X4_gainOf) rfl rfl rfl (by decide +kernel) ⟨Nat.le_of_ble_eq_true rfl, Nat.le_of_ble_eq_true rfl⟩) (nB.preV hK hI hP (by omega) f_L rfl rfl) rfl rfl hl.1 rfl (lv_room (Nat.le_of_ble_eq_true rfl)) dX6_gains_54 ⟨Nat.zero_le _, Nat.zero_le _⟩) ?_
            refine n_ladd hx hb dX6_gains_57 ?_
            refine lv_lstore_n (lv' := [(2, .long (jI (sumI (fun g9 => gnV gp gt ra rb stp g9 (if bt z g9 = 1 then 1 else 0)) q + (((nPr (gp q * ra) (stp * rb) stp 1 : Nat) : Int) * ((rb : Nat) : Int) - (gp q : Int) * ((ra : Nat) : Int)) * (gt q : Int)))), (5, .int (iI 1)), (0, .ref (ad x)), (1, .int (iI z)), (4, .int (iI ((q : Nat) : Int)))]) hx hb dX6_gains_58 rfl hl (by decide) rfl (fun ls hl => ?_)
            refine lv_iinc (v := iI (((q : Nat) : Int) + 1)) (lv' := [(4, .int (iI (((q : Nat) : Int) + 1))), (2, .long (jI (sumI (fun g9 => gnV gp gt ra rb stp g9 (if bt z g9 = 1 then 1 else 0)) q + (((nPr (gp q * ra) (stp * rb) stp 1 : Nat) : Int) * ((rb : Nat) : Int) - (gp q : Int) * ((ra : Nat) : Int)) * (gt q : Int)))), (5, .int (iI 1)), (0, .ref (ad x)), (1, .int (iI z))]) hx hb dX6_gains_59 hl (k := 4) rfl (by first | exact iI_add _ _ | exact (iI_add _ _).trans (congrArg iI (by omega))) (by decide) rfl (fun ls hl => ?_)
            refine lv_goto (tgt := 5) hx hb dX6_gains_62 (by decide) ?_
            exact ih2 (q + 1) _ (by omega) (by omega) (by first | exact lv_sub hl [3, 4, 1, 0] rfl | exact lv_cast (lv_sub (l' := [(0, .ref (ad x)), (1, .int (iI z)), (2, .long (jI (sumI (fun g9 => gnV gp gt ra rb stp g9 (if bt z g9 = 1 then 1 else 0)) q + (((nPr (gp q * ra) (stp * rb) stp 1 : Nat) : Int) * ((rb : Nat) : Int) - (gp q : Int) * ((ra : Nat) : Int)) * (gt q : Int)))), (4, .int (iI (((q : Nat) : Int) + 1)))]) hl [3, 4, 1, 0] rfl) (lc_s (lc_s (lc_j (show ((sumI (fun g9 => gnV gp gt ra rb stp g9 (if bt z g9 = 1 then 1 else 0)) q + (((nPr (gp q * ra) (stp * rb) stp 1 : Nat) : Int) * ((rb : Nat) : Int) - (gp q : Int) * ((ra : Nat) : Int)) * (gt q : Int)) : Int) = sumI (fun g9 => gnV gp gt ra rb stp g9 (if bt z g9 = 1 then 1 else 0)) (q + 1) by (show sumI (fun g9 => gnV gp gt ra rb stp g9 (if bt z g9 = 1 then 1 else 0)) q + gnV gp gt ra rb stp q 1 = sumI (fun g9 => gnV gp gt ra rb stp g9 (if bt z g9 = 1 then 1 else 0)) q + gnV gp gt ra rb stp q (if bt z q = 1 then 1 else 0); rw [if_pos hc27])) (lc_i (show ((((q : Nat) : Int) + 1) : Int) = (((q + 1) : Nat) : Int) by omega) rfl)))))
  exact lp1 (gn - 0 + 1) 0 _ (Nat.lt_succ_self _) (by omega) (by first | exact lv_sub hl [2, 3, 1, 0] rfl | exact lv_cast (lv_sub (l' := [(0, .ref (ad x)), (1, .int (iI z)), (2, .long (jI 0)), (4, .int (iI 0))]) hl [2, 3, 1, 0] rfl) (lc_s (lc_s (lc_j (show (0 : Int) = sumI (fun g9 => gnV gp gt ra rb stp g9 (if bt z g9 = 1 then 1 else 0)) 0 by omega) (lc_i (show (0 : Int) = ((0 : Nat) : Int) by omega) rfl)))))
