theorem INV_up {k : Nat} {σ : Sg} (h : INV k σ) : INV (k + 1) σ := by
  obtain ⟨n, T, K, s, L, r, c, h1, h2, h3, h4, h5, h6, h7⟩ := h
  exact ⟨n, T, K, s, L, r, c, h1, h2, h3, h4, h5, h6, by omega⟩
theorem lc_63 (x : Int32) : ∃ j, j < 64 ∧ x &&& 63 = nI j := by
  refine ⟨(x &&& 63).toBitVec.toNat, ?_, ?_⟩
  · rw [Int32.toBitVec_and, BitVec.toNat_and]
    exact Nat.lt_of_le_of_lt Nat.and_le_right (by decide)
  · apply Int32.toBitVec_inj.mp
    apply BitVec.eq_of_toNat_eq
    show _ = (Int32.ofNat _).toBitVec.toNat
    rw [Int32.toBitVec_ofNat', BitVec.toNat_ofNat, Nat.mod_eq_of_lt (BitVec.isLt _)]
theorem lc_end {p : Program} {l : Launch} {e : Env} {s : State} {m : MethodId} {below : List Frame} {meth : Method} {c : Code} {b L : Nat} {xs : Nat → Int32} {ad : Nat → Nat} {cA : Nat → ClassId} {D : va_G} {H : Heap} {locs : List Loc} {ls : Array Slot} {σ : Sg} (C : lc_C p s m meth c b L xs ad cA D) (hH : lc_S s ad cA D σ H locs) : W p l e room_1 s m #[Value.ref b] below meth c H locs 70 6996 (lw_Z below #[Value.ref b] s) (F0 m 1554 ls []) := by
  obtain ⟨hx, hb, hr, hml, hown, hts, hX, hbl, hlocks, hK, hi, hA, hL⟩ := C
  refine lv_iconst (v := 1) hx hb dl_1554 (by decide +kernel) ?_
  refine va_forget (fun q h => hH.2.2.2 q h) ?_
  refine W.widen (k := 600000) (n := 7302250) (Nat.le_of_ble_eq_true rfl) (Nat.le_of_ble_eq_true rfl) ?_
  exact lw_ret hx hb hr hlocks dl_1555
theorem lc_le {k L : Nat} (hL : L ≤ 3072) (hk : k ≤ 512) : Int32.ofNat L - 6 < nI (6 * k) ↔ ¬ 6 * k + 6 ≤ L := by
  have h1 : (Int32.ofNat L - 6).toInt = (L : Int) - 6 := by
    have h2 : (Int32.ofNat L).toInt = (L : Int) := nI_toInt (n := L) (by omega)
    rw [Int32.toInt_sub, h2, show (6 : Int32).toInt = 6 from by decide]
    rw [Int.bmod_eq_of_le (by omega) (by omega)]
  rw [Int32.lt_iff_toInt_lt, h1, nI_toInt (by omega)]
  omega
set_option maxHeartbeats 2000000 in
theorem lc_loop {p : Program} {l : Launch} {e : Env} {s : State} {m : MethodId} {below : List Frame} {meth : Method} {c : Code} {b L : Nat} {xs : Nat → Int32} {ad : Nat → Nat} {cA : Nat → ClassId} {D : va_G} (C : lc_C p s m meth c b L xs ad cA D) : ∀ (n k : Nat) (σ : Sg) (H : Heap) (locs : List Loc) (ls : Array Slot), n + k = 512 → INV k σ → lc_L ls b ad k → lc_S s ad cA D σ H locs → W p l e room_1 s m #[Value.ref b] below meth c H locs 70 6996 (lw_Z below #[Value.ref b] s) (F0 m 18 ls []) := by
  intro n
  induction n with
  | zero =>
    intro k σ H locs ls hn hI hl hH
    have hC := C
    obtain ⟨hx, hb, hr, hml, hown, hts, hX, hbl, hlocks, hK, hi, hA, hL⟩ := C
    refine lv_iload_n hx hb dl_18 rfl (lv_at hl 0 rfl) ?_
    refine lv_aload_n hx hb dl_19 rfl (lv_at hl 3 rfl) ?_
    refine va_slen hx hb hX hbl (Nat.not_le.mpr hbl) hH.2 dl_20 ?_
    refine lv_bipush (v := 6) hx hb dl_21 (by decide +kernel) ?_
    refine lv_isub hx hb dl_23 ?_
    refine lv_icmp_gt (tgt := 1554) hx hb dl_24 (by decide) (fun _ => lc_end hC hH) (fun h => absurd ((lc_le hL (by omega)).mpr (by omega)) h)
  | succ n ih =>
    intro k σ H locs ls hn hI hl hH
    have hC := C
    obtain ⟨hx, hb, hr, hml, hown, hts, hX, hbl, hlocks, hK, hi, hA, hL⟩ := C
    refine lv_iload_n hx hb dl_18 rfl (lv_at hl 0 rfl) ?_
    refine lv_aload_n hx hb dl_19 rfl (lv_at hl 3 rfl) ?_
    refine va_slen hx hb hX hbl (Nat.not_le.mpr hbl) hH.2 dl_20 ?_
    refine lv_bipush (v := 6) hx hb dl_21 (by decide +kernel) ?_
    refine lv_isub hx hb dl_23 ?_
    refine lv_icmp_gt (tgt := 1554) hx hb dl_24 (by decide) (fun _ => lc_end hC hH) (fun h => ?_)
    have hk : 6 * k + 6 ≤ L := Classical.byContradiction (fun q => h ((lc_le hL (by omega)).mpr q))
    have nx : ∀ (τ : Sg) (H1 : Heap) (locs1 : List Loc), INV (k + 1) τ → lc_S s ad cA D τ H1 locs1 → W p l e room_1 s m #[Value.ref b] below meth c H1 locs1 70 6996 (lw_Z below #[Value.ref b] s) (F0 m 1548 ls []) := by
      intro τ H1 locs1 hI1 hH1
      refine lv_iinc (v := nI (6 * (k + 1))) hx hb dl_1548 hl (k := 0) rfl ?_ (by decide) rfl (fun ls' hl' => ?_)
      · rw [show Int32.ofInt 6 = nI 6 from by decide +kernel, nI_add]
        rfl
      · refine lv_goto (tgt := 18) hx hb dl_1551 (by decide) ?_
        exact ih (k + 1) τ H1 locs1 ls' (by omega) hI1 hl' hH1
    refine lv_aload_n hx hb dl_27 rfl (lv_at hl 3 rfl) ?_
    refine lv_iload_n hx hb dl_28 rfl (lv_at hl 0 rfl) ?_
    refine va_sld hx hb hX hbl (Nat.not_le.mpr hbl) hH.2 (nI_in (show 6 * k < L by omega) (by omega)) dl_29 ?_
    refine lv_bipush (v := 63) hx hb dl_30 (by decide +kernel) ?_
    refine lv_iand hx hb dl_32 ?_
    obtain ⟨j, hj, ej⟩ := lc_63 (xs (nI (6 * k)).toNatClampNeg)
    rw [ej]
    have up : j < 40 ∨ 40 ≤ j := Nat.lt_or_ge j 40
    rcases up with hj4 | hj4
    case inr => exact lv_tableOut (tgt := 1548) hx hb dl_33 (Or.inr (by rw [nI_toInt (by omega)]; omega)) (by decide) (nx σ H locs (INV_up hI) hH)
    match j, hj4 with
    | 0, _ => exact lv_tableIn (off := 175) (tgt := 208) hx hb dl_33 (by decide +kernel) (by decide +kernel) (by decide +kernel) (by decide) (lc_0 hC hH hl hk hI nx)
    | 1, _ => exact lv_tableIn (off := 198) (tgt := 231) hx hb dl_33 (by decide +kernel) (by decide +kernel) (by decide +kernel) (by decide) (lc_1 hC hH hl hk hI nx)
    | 2, _ => exact lv_tableIn (off := 257) (tgt := 290) hx hb dl_33 (by decide +kernel) (by decide +kernel) (by decide +kernel) (by decide) (lc_2 hC hH hl hk hI nx)
    | 3, _ => exact lv_tableIn (off := 290) (tgt := 323) hx hb dl_33 (by decide +kernel) (by decide +kernel) (by decide +kernel) (by decide) (lc_3 hC hH hl hk hI nx)
    | 4, _ => exact lv_tableIn (off := 323) (tgt := 356) hx hb dl_33 (by decide +kernel) (by decide +kernel) (by decide +kernel) (by decide) (lc_4 hC hH hl hk hI nx)
    | 5, _ => exact lv_tableIn (off := 356) (tgt := 389) hx hb dl_33 (by decide +kernel) (by decide +kernel) (by decide +kernel) (by decide) (lc_5 hC hH hl hk hI nx)
    | 6, _ => exact lv_tableIn (off := 389) (tgt := 422) hx hb dl_33 (by decide +kernel) (by decide +kernel) (by decide +kernel) (by decide) (lc_6 hC hH hl hk hI nx)
    | 7, _ => exact lv_tableIn (off := 422) (tgt := 455) hx hb dl_33 (by decide +kernel) (by decide +kernel) (by decide +kernel) (by decide) (lc_7 hC hH hl hk hI nx)
    | 8, _ => exact lv_tableIn (off := 456) (tgt := 489) hx hb dl_33 (by decide +kernel) (by decide +kernel) (by decide +kernel) (by decide) (lc_8 hC hH hl hk hI nx)
    | 9, _ => exact lv_tableIn (off := 500) (tgt := 533) hx hb dl_33 (by decide +kernel) (by decide +kernel) (by decide +kernel) (by decide) (lc_9 hC hH hl hk hI nx)
    | 10, _ => exact lv_tableIn (off := 534) (tgt := 567) hx hb dl_33 (by decide +kernel) (by decide +kernel) (by decide +kernel) (by decide) (lc_10 hC hH hl hk hI nx)
    | 11, _ => exact lv_tableIn (off := 568) (tgt := 601) hx hb dl_33 (by decide +kernel) (by decide +kernel) (by decide +kernel) (by decide) (lc_11 hC hH hl hk hI nx)
    | 12, _ => exact lv_tableIn (off := 602) (tgt := 635) hx hb dl_33 (by decide +kernel) (by decide +kernel) (by decide +kernel) (by decide) (lc_12 hC hH hl hk hI nx)
    | 13, _ => exact lv_tableIn (off := 646) (tgt := 679) hx hb dl_33 (by decide +kernel) (by decide +kernel) (by decide +kernel) (by decide) (lc_13 hC hH hl hk hI nx)
    | 14, _ => exact lv_tableIn (off := 680) (tgt := 713) hx hb dl_33 (by decide +kernel) (by decide +kernel) (by decide +kernel) (by decide) (lc_14 hC hH hl hk hI nx)
    | 15, _ => exact lv_tableIn (off := 714) (tgt := 747) hx hb dl_33 (by decide +kernel) (by decide +kernel) (by decide +kernel) (by decide) (lc_15 hC hH hl hk hI nx)
    | 16, _ => exact lv_tableIn (off := 767) (tgt := 800) hx hb dl_33 (by decide +kernel) (by decide +kernel) (by decide +kernel) (by decide) (lc_16 hC hH hl hk hI nx)
    | 17, _ => exact lv_tableIn (off := 800) (tgt := 833) hx hb dl_33 (by decide +kernel) (by decide +kernel) (by decide +kernel) (by decide) (lc_17 hC hH hl hk hI nx)
    | 18, _ => exact lv_tableIn (off := 833) (tgt := 866) hx hb dl_33 (by decide +kernel) (by decide +kernel) (by decide +kernel) (by decide) (lc_18 hC hH hl hk hI nx)
    | 19, _ => exact lv_tableIn (off := 867) (tgt := 900) hx hb dl_33 (by decide +kernel) (by decide +kernel) (by decide +kernel) (by decide) (lc_19 hC hH hl hk hI nx)
    | 20, _ => exact lv_tableIn (off := 911) (tgt := 944) hx hb dl_33 (by decide +kernel) (by decide +kernel) (by decide +kernel) (by decide) (lc_20 hC hH hl hk hI nx)
    | 21, _ => exact lv_tableIn (off := 945) (tgt := 978) hx hb dl_33 (by decide +kernel) (by decide +kernel) (by decide +kernel) (by decide) (lc_21 hC hH hl hk hI nx)
    | 22, _ => exact lv_tableIn (off := 968) (tgt := 1001) hx hb dl_33 (by decide +kernel) (by decide +kernel) (by decide +kernel) (by decide) (lc_22 hC hH hl hk hI nx)
    | 23, _ => exact lv_tableIn (off := 1002) (tgt := 1035) hx hb dl_33 (by decide +kernel) (by decide +kernel) (by decide +kernel) (by decide) (lc_23 hC hH hl hk hI nx)
    | 24, _ => exact lv_tableIn (off := 1025) (tgt := 1058) hx hb dl_33 (by decide +kernel) (by decide +kernel) (by decide +kernel) (by decide) (lc_24 hC hH hl hk hI nx)
    | 25, _ => exact lv_tableIn (off := 1058) (tgt := 1091) hx hb dl_33 (by decide +kernel) (by decide +kernel) (by decide +kernel) (by decide) (lc_25 hC hH hl hk hI nx)
    | 26, _ => exact lv_tableIn (off := 1081) (tgt := 1114) hx hb dl_33 (by decide +kernel) (by decide +kernel) (by decide +kernel) (by decide) (lc_26 hC hH hl hk hI nx)
    | 27, _ => exact lv_tableIn (off := 1114) (tgt := 1147) hx hb dl_33 (by decide +kernel) (by decide +kernel) (by decide +kernel) (by decide) (lc_27 hC hH hl hk hI nx)
    | 28, _ => exact lv_tableIn (off := 1127) (tgt := 1160) hx hb dl_33 (by decide +kernel) (by decide +kernel) (by decide +kernel) (by decide) (lc_28 hC hH hl hk hI nx)
    | 29, _ => exact lv_tableIn (off := 1150) (tgt := 1183) hx hb dl_33 (by decide +kernel) (by decide +kernel) (by decide +kernel) (by decide) (lc_29 hC hH hl hk hI nx)
    | 30, _ => exact lv_tableIn (off := 1173) (tgt := 1206) hx hb dl_33 (by decide +kernel) (by decide +kernel) (by decide +kernel) (by decide) (lc_30 hC hH hl hk hI nx)
    | 31, _ => exact lv_tableIn (off := 1196) (tgt := 1229) hx hb dl_33 (by decide +kernel) (by decide +kernel) (by decide +kernel) (by decide) (lc_31 hC hH hl hk hI nx)
    | 32, _ => exact lv_tableIn (off := 1220) (tgt := 1253) hx hb dl_33 (by decide +kernel) (by decide +kernel) (by decide +kernel) (by decide) (lc_32 hC hH hl hk hI nx)
    | 33, _ => exact lv_tableIn (off := 1263) (tgt := 1296) hx hb dl_33 (by decide +kernel) (by decide +kernel) (by decide +kernel) (by decide) (lc_33 hC hH hl hk hI nx)
    | 34, _ => exact lv_tableIn (off := 1286) (tgt := 1319) hx hb dl_33 (by decide +kernel) (by decide +kernel) (by decide +kernel) (by decide) (lc_34 hC hH hl hk hI nx)
    | 35, _ => exact lv_tableIn (off := 1339) (tgt := 1372) hx hb dl_33 (by decide +kernel) (by decide +kernel) (by decide +kernel) (by decide) (lc_35 hC hH hl hk hI nx)
    | 36, _ => exact lv_tableIn (off := 1382) (tgt := 1415) hx hb dl_33 (by decide +kernel) (by decide +kernel) (by decide +kernel) (by decide) (lc_36 hC hH hl hk hI nx)
    | 37, _ => exact lv_tableIn (off := 1445) (tgt := 1478) hx hb dl_33 (by decide +kernel) (by decide +kernel) (by decide +kernel) (by decide) (lc_37 hC hH hl hk hI nx)
    | 38, _ => exact lv_tableIn (off := 1478) (tgt := 1511) hx hb dl_33 (by decide +kernel) (by decide +kernel) (by decide +kernel) (by decide) (lc_38 hC hH hl hk hI nx)
    | 39, _ => exact lv_tableIn (off := 1501) (tgt := 1534) hx hb dl_33 (by decide +kernel) (by decide +kernel) (by decide +kernel) (by decide) (lc_39 hC hH hl hk hI nx)
    | j + 40, h => exact absurd h (by omega)
