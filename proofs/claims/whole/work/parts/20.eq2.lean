noncomputable def X_TO_leaving (d : Nat) (x1 : Int32) (x2 : Int32) (σ : Sg) : Oz := xm_rn (xm_call d) 2 kc_TO_leaving 0 [.ref 0, .int x1, .int x2, .null] [] σ
set_option maxHeartbeats 8000000 in
set_option maxRecDepth 20000 in
theorem X_TO_leaving_e (d : Nat) (x1 : Int32) (x2 : Int32) (σ : Sg) : X_TO_leaving (d + 1) x1 x2 σ =
  xm_cI (X_TO_isBit d x1 σ) (fun r2 σ1 => xm_br (r2 = 0)
    (xm_cL (X_TO_refusal d (-2) σ1) (fun r4 σ3 => some (some (.long r4), σ3)))
    (xm_cI (X_TO_isBit d x2 σ1) (fun r6 σ5 => xm_br (r6 = 0)
      (xm_cL (X_TO_refusal d (-2) σ5) (fun r18 σ17 => some (some (.long r18), σ17)))
      (xm_cI (X_Shares_treeToLeave d x1 σ5) (fun r8 σ7 => xm_br (r8 = (-1))
        (xm_cL (X_TO_refusal d (-3) σ7) (fun r16 σ15 => some (some (.long r16), σ15)))
        (xm_cL (X_Shares_byTies d 1 r8 σ7) (fun r10 σ9 => xm_cL (X_Shares_byTies d 0 r8 σ9) (fun r12 σ11 => xm_cL (X_TO_part d r10 r12 x2 σ11) (fun r14 σ13 => some (some (.long r14), σ13)))))))))) := (xm_it_eq [] 28).trans rfl
noncomputable def X_Records_likes (d : Nat)  (σ : Sg) : Oz := xm_rn (xm_call d) 1 kc_Records_likes 0 [.ref 9, .null, .null, .null] [] σ
noncomputable def X_Records_likes_4 (d : Nat) (x1 : Int32) (x2 : Int32) (σ : Sg) : Oz := xm_rn (xm_call d) 1 kc_Records_likes 4 [.ref 9, .int x1, .int x2, .null] [] σ
set_option maxHeartbeats 8000000 in
set_option maxRecDepth 20000 in
theorem X_Records_likes_e (d : Nat)  (σ : Sg) : X_Records_likes d σ =
  X_Records_likes_4 d 0 0 σ := (xm_it_eq [4] 5).trans rfl
set_option maxHeartbeats 8000000 in
set_option maxRecDepth 20000 in
theorem X_Records_likes_4_e (d : Nat) (x1 : Int32) (x2 : Int32) (σ : Sg) : X_Records_likes_4 d x1 x2 σ =
  xm_br ((σ.1 9 9) ≤ x2)
    (some (some (.int x1), σ))
    (xm_ix x2 24 (fun j1 => xm_br ((σ.1 18 j1) = 0)
      (X_Records_likes_4 d (x1 + 0) (x2 + 1) σ)
      (xm_ix x2 24 (fun j2 => xm_br ((σ.1 10 j2) = (-1))
        (X_Records_likes_4 d (x1 + 0) (x2 + 1) σ)
        (xm_ix x2 24 (fun j3 => xm_ix x2 24 (fun j4 => xm_ix (σ.1 10 j4) 24 (fun j5 => xm_br ((σ.1 11 j3) = (σ.1 11 j5))
          (X_Records_likes_4 d (x1 + 1) (x2 + 1) σ)
          (X_Records_likes_4 d (x1 + 0) (x2 + 1) σ))))))))) := (xm_it_eq [4] 40).trans rfl
noncomputable def X_Records_counting (d : Nat)  (σ : Sg) : Oz := xm_rn (xm_call d) 1 kc_Records_counting 0 [.ref 9, .null, .null] [] σ
noncomputable def X_Records_counting_4 (d : Nat) (x1 : Int32) (x2 : Int32) (σ : Sg) : Oz := xm_rn (xm_call d) 1 kc_Records_counting 4 [.ref 9, .int x1, .int x2] [] σ
set_option maxHeartbeats 8000000 in
set_option maxRecDepth 20000 in
theorem X_Records_counting_e (d : Nat)  (σ : Sg) : X_Records_counting d σ =
  X_Records_counting_4 d 0 0 σ := (xm_it_eq [4] 5).trans rfl
set_option maxHeartbeats 8000000 in
set_option maxRecDepth 20000 in
theorem X_Records_counting_4_e (d : Nat) (x1 : Int32) (x2 : Int32) (σ : Sg) : X_Records_counting_4 d x1 x2 σ =
  xm_br ((σ.1 9 9) ≤ x2)
    (some (some (.int x1), σ))
    (xm_ix x2 24 (fun j1 => xm_br ((σ.1 18 j1) = 0)
      (X_Records_counting_4 d (x1 + 0) (x2 + 1) σ)
      (X_Records_counting_4 d (x1 + 1) (x2 + 1) σ))) := (xm_it_eq [4] 17).trans rfl
noncomputable def X_Deals_gather (d : Nat)  (σ : Sg) : Oz := xm_rn (xm_call d) 1 kc_Deals_gather 0 [.ref 21, .null, .null, .null] [] σ
noncomputable def X_Deals_gather_9 (d : Nat) (x1 : Int32) (x2 : Int32) (σ : Sg) : Oz := xm_rn (xm_call d) 1 kc_Deals_gather 9 [.ref 21, .int x1, .int x2, .null] [] σ
set_option maxHeartbeats 8000000 in
set_option maxRecDepth 20000 in
theorem X_Deals_gather_e (d : Nat)  (σ : Sg) : X_Deals_gather d σ =
  X_Deals_gather_9 d 0 0 (xm_sI σ 21 3 0) := (xm_it_eq [9] 8).trans rfl
set_option maxHeartbeats 8000000 in
set_option maxRecDepth 20000 in
theorem X_Deals_gather_9_e (d : Nat) (x1 : Int32) (x2 : Int32) (σ : Sg) : X_Deals_gather_9 d x1 x2 σ =
  xm_br ((σ.1 9 9) ≤ x2)
    (some (some (.int x1), σ))
    (xm_br (14 ≤ (σ.1 21 3))
      (some (some (.int x1), σ))
      (xm_ix x2 24 (fun j1 => xm_br ((σ.1 18 j1) = 0)
        (X_Deals_gather_9 d x1 (x2 + 1) σ)
        (xm_ix x2 24 (fun j2 => xm_ix x2 24 (fun j3 => xm_br ((σ.1 10 j2) = (-1))
          (xm_ix (σ.1 21 3) 14 (fun j7 => xm_ix x2 24 (fun j8 => X_Deals_gather_9 d (x1 ||| ((σ.1 11 j8) <<< ((σ.1 21 3) &&& 31))) (x2 + 1) (xm_sI (xm_sI (xm_sI σ 22 j3 (σ.1 21 3)) 23 j7 (-1)) 21 3 ((σ.1 21 3) + 1)))))
          (xm_ix (σ.1 10 j2) 24 (fun j4 => xm_ix (σ.1 21 3) 14 (fun j5 => xm_ix x2 24 (fun j6 => X_Deals_gather_9 d (x1 ||| ((σ.1 11 j6) <<< ((σ.1 21 3) &&& 31))) (x2 + 1) (xm_sI (xm_sI (xm_sI σ 22 j3 (σ.1 21 3)) 23 j5 (((xm_sI σ 22 j3 (σ.1 21 3))).1 22 j4)) 21 3 ((σ.1 21 3) + 1)))))))))))) := (xm_it_eq [9] 59).trans rfl
noncomputable def X_Deals_alikeIn (d : Nat) (x1 : Int32) (σ : Sg) : Oz := xm_rn (xm_call d) 1 kc_Deals_alikeIn 0 [.ref 21, .int x1, .null, .null, .null] [] σ
noncomputable def X_Deals_alikeIn_4 (d : Nat) (x1 : Int32) (x2 : Int32) (x3 : Int32) (σ : Sg) : Oz := xm_rn (xm_call d) 1 kc_Deals_alikeIn 4 [.ref 21, .int x1, .int x2, .int x3, .null] [] σ
set_option maxHeartbeats 8000000 in
set_option maxRecDepth 20000 in
theorem X_Deals_alikeIn_e (d : Nat) (x1 : Int32) (σ : Sg) : X_Deals_alikeIn d x1 σ =
  X_Deals_alikeIn_4 d x1 0 0 σ := (xm_it_eq [4] 5).trans rfl
set_option maxHeartbeats 8000000 in
set_option maxRecDepth 20000 in
theorem X_Deals_alikeIn_4_e (d : Nat) (x1 : Int32) (x2 : Int32) (x3 : Int32) (σ : Sg) : X_Deals_alikeIn_4 d x1 x2 x3 σ =
  xm_br ((σ.1 21 3) ≤ x3)
    (some (some (.int x2), σ))
    (xm_ix x3 14 (fun j1 => xm_br ((σ.1 23 j1) = (-1))
      (X_Deals_alikeIn_4 d x1 (x2 + 0) (x3 + 1) σ)
      (xm_br (((x1 >>> (x3 &&& 31)) &&& 1) = ((x1 >>> ((σ.1 23 j1) &&& 31)) &&& 1))
        (X_Deals_alikeIn_4 d x1 (x2 + 1) (x3 + 1) σ)
        (X_Deals_alikeIn_4 d x1 (x2 + 0) (x3 + 1) σ)))) := (xm_it_eq [4] 31).trans rfl
noncomputable def X_Int_lowestOneBit (d : Nat) (x0 : Int32) (σ : Sg) : Oz := xm_rn (xm_call d) 1 kc_Int_lowestOneBit 0 [.int x0] [] σ
set_option maxHeartbeats 8000000 in
set_option maxRecDepth 20000 in
theorem X_Int_lowestOneBit_e (d : Nat) (x0 : Int32) (σ : Sg) : X_Int_lowestOneBit d x0 σ =
  some (some (.int (x0 &&& (-x0))), σ) := (xm_it_eq [] 6).trans rfl
noncomputable def X_Int_numberOfTrailingZeros (d : Nat) (x0 : Int32) (σ : Sg) : Oz := xm_rn (xm_call d) 1 kc_Int_numberOfTrailingZeros 0 [.int x0, .null] [] σ
noncomputable def X_Int_numberOfTrailingZeros_62 (d : Nat) (x0 : Int32) (x1 : Int32) (σ : Sg) : Oz := xm_rn (xm_call d) 1 kc_Int_numberOfTrailingZeros 62 [.int x0, .int x1] [] σ
noncomputable def X_Int_numberOfTrailingZeros_74 (d : Nat) (x0 : Int32) (x1 : Int32) (σ : Sg) : Oz := xm_rn (xm_call d) 1 kc_Int_numberOfTrailingZeros 74 [.int x0, .int x1] [] σ
set_option maxHeartbeats 8000000 in
set_option maxRecDepth 20000 in
theorem X_Int_numberOfTrailingZeros_e (d : Nat) (x0 : Int32) (σ : Sg) : X_Int_numberOfTrailingZeros d x0 σ =
  xm_br (0 < ((x0 ^^^ (-1)) &&& (x0 - 1)))
    (xm_br (((x0 ^^^ (-1)) &&& (x0 - 1)) ≤ 65536)
      (xm_br (((x0 ^^^ (-1)) &&& (x0 - 1)) ≤ 256)
        (xm_br (((x0 ^^^ (-1)) &&& (x0 - 1)) ≤ 16)
          (X_Int_numberOfTrailingZeros_62 d ((x0 ^^^ (-1)) &&& (x0 - 1)) 1 σ)
          (X_Int_numberOfTrailingZeros_62 d ((((x0 ^^^ (-1)) &&& (x0 - 1)).toUInt32 >>> ((4 : Int32).toUInt32 &&& Int32.toUInt32 31)).toInt32) (1 + 4) σ))
        (xm_br (((((x0 ^^^ (-1)) &&& (x0 - 1)).toUInt32 >>> ((8 : Int32).toUInt32 &&& Int32.toUInt32 31)).toInt32) ≤ 16)
          (X_Int_numberOfTrailingZeros_62 d ((((x0 ^^^ (-1)) &&& (x0 - 1)).toUInt32 >>> ((8 : Int32).toUInt32 &&& Int32.toUInt32 31)).toInt32) (1 + 8) σ)
          (X_Int_numberOfTrailingZeros_62 d ((((((x0 ^^^ (-1)) &&& (x0 - 1)).toUInt32 >>> ((8 : Int32).toUInt32 &&& Int32.toUInt32 31)).toInt32).toUInt32 >>> ((4 : Int32).toUInt32 &&& Int32.toUInt32 31)).toInt32) ((1 + 8) + 4) σ)))
      (xm_br (((((x0 ^^^ (-1)) &&& (x0 - 1)).toUInt32 >>> ((16 : Int32).toUInt32 &&& Int32.toUInt32 31)).toInt32) ≤ 256)
        (xm_br (((((x0 ^^^ (-1)) &&& (x0 - 1)).toUInt32 >>> ((16 : Int32).toUInt32 &&& Int32.toUInt32 31)).toInt32) ≤ 16)
          (X_Int_numberOfTrailingZeros_62 d ((((x0 ^^^ (-1)) &&& (x0 - 1)).toUInt32 >>> ((16 : Int32).toUInt32 &&& Int32.toUInt32 31)).toInt32) (1 + 16) σ)
          (X_Int_numberOfTrailingZeros_62 d ((((((x0 ^^^ (-1)) &&& (x0 - 1)).toUInt32 >>> ((16 : Int32).toUInt32 &&& Int32.toUInt32 31)).toInt32).toUInt32 >>> ((4 : Int32).toUInt32 &&& Int32.toUInt32 31)).toInt32) ((1 + 16) + 4) σ))
        (xm_br (((((((x0 ^^^ (-1)) &&& (x0 - 1)).toUInt32 >>> ((16 : Int32).toUInt32 &&& Int32.toUInt32 31)).toInt32).toUInt32 >>> ((8 : Int32).toUInt32 &&& Int32.toUInt32 31)).toInt32) ≤ 16)
          (X_Int_numberOfTrailingZeros_62 d ((((((x0 ^^^ (-1)) &&& (x0 - 1)).toUInt32 >>> ((16 : Int32).toUInt32 &&& Int32.toUInt32 31)).toInt32).toUInt32 >>> ((8 : Int32).toUInt32 &&& Int32.toUInt32 31)).toInt32) ((1 + 16) + 8) σ)
          (X_Int_numberOfTrailingZeros_62 d ((((((((x0 ^^^ (-1)) &&& (x0 - 1)).toUInt32 >>> ((16 : Int32).toUInt32 &&& Int32.toUInt32 31)).toInt32).toUInt32 >>> ((8 : Int32).toUInt32 &&& Int32.toUInt32 31)).toInt32).toUInt32 >>> ((4 : Int32).toUInt32 &&& Int32.toUInt32 31)).toInt32) (((1 + 16) + 8) + 4) σ))))
    (some (some (.int (((x0 ^^^ (-1)) &&& (x0 - 1)) &&& 32)), σ)) := (xm_it_eq [62, 74] 37).trans rfl
set_option maxHeartbeats 8000000 in
set_option maxRecDepth 20000 in
theorem X_Int_numberOfTrailingZeros_62_e (d : Nat) (x0 : Int32) (x1 : Int32) (σ : Sg) : X_Int_numberOfTrailingZeros_62 d x0 x1 σ =
  xm_br (x0 ≤ 4)
    (X_Int_numberOfTrailingZeros_74 d x0 x1 σ)
    (X_Int_numberOfTrailingZeros_74 d ((x0.toUInt32 >>> ((2 : Int32).toUInt32 &&& Int32.toUInt32 31)).toInt32) (x1 + 2) σ) := (xm_it_eq [62, 74] 9).trans rfl
set_option maxHeartbeats 8000000 in
set_option maxRecDepth 20000 in
theorem X_Int_numberOfTrailingZeros_74_e (d : Nat) (x0 : Int32) (x1 : Int32) (σ : Sg) : X_Int_numberOfTrailingZeros_74 d x0 x1 σ =
  some (some (.int (x1 + ((x0.toUInt32 >>> ((1 : Int32).toUInt32 &&& Int32.toUInt32 31)).toInt32))), σ) := (xm_it_eq [62, 74] 7).trans rfl
noncomputable def X_Deals_following (d : Nat) (x0 : Int32) (σ : Sg) : Oz := xm_rn (xm_call d) 1 kc_Deals_following 0 [.int x0, .null, .null] [] σ
set_option maxHeartbeats 8000000 in
set_option maxRecDepth 20000 in
theorem X_Deals_following_e (d : Nat) (x0 : Int32) (σ : Sg) : X_Deals_following (d + 1) x0 σ =
  xm_br (x0 = 0)
    (some (some (.int 2147483647), σ))
    (xm_cI (X_Int_lowestOneBit d x0 σ) (fun r2 σ1 => xm_cI (X_Int_numberOfTrailingZeros d r2 σ1) (fun r4 σ3 => some (some (.int ((x0 + r2) ||| (((x0 ^^^ (x0 + r2)).toUInt32 >>> ((2 + r4).toUInt32 &&& Int32.toUInt32 31)).toInt32))), σ3)))) := (xm_it_eq [] 21).trans rfl
noncomputable def X_Deals_chance (d : Nat)  (σ : Sg) : Oz := xm_rn (xm_call d) 1 kc_Deals_chance 0 [.ref 21, .null, .null, .null, .null, .null, .null, .null, .null] [] σ
noncomputable def X_Deals_chance_29 (d : Nat) (x2 : Int32) (x3 : Int32) (x4 : Int64) (x6 : Int64) (x8 : Int32) (σ : Sg) : Oz := xm_rn (xm_call d) 1 kc_Deals_chance 29 [.ref 21, .null, .int x2, .int x3, .long x4, .null, .long x6, .null, .int x8] [] σ
set_option maxHeartbeats 8000000 in
set_option maxRecDepth 20000 in
theorem X_Deals_chance_e (d : Nat)  (σ : Sg) : X_Deals_chance (d + 1) σ =
  xm_cI (X_Deals_gather d σ) (fun r2 σ1 => xm_cI (X_Deals_alikeIn d r2 σ1) (fun r4 σ3 => xm_cI (X_Int_bitCount d r2 σ3) (fun r6 σ5 => X_Deals_chance_29 (d + 1) r4 (((1 : Int32) <<< (r6 &&& 31)) - 1) 0 0 0 σ5))) := (xm_it_eq [29] 21).trans rfl
set_option maxHeartbeats 8000000 in
set_option maxRecDepth 20000 in
theorem X_Deals_chance_29_e (d : Nat) (x2 : Int32) (x3 : Int32) (x4 : Int64) (x6 : Int64) (x8 : Int32) (σ : Sg) : X_Deals_chance_29 (d + 1) x2 x3 x4 x6 x8 σ =
  xm_br (16384 ≤ x8)
    (xm_br ((lg_cmp x4 0) = 0)
      (some (some (.int 1000000), σ))
      (xm_dvL x4 (some (some (.int (((x6 * 1000000) / x4).toInt32)), σ))))
    (xm_br (((1 : Int32) <<< ((σ.1 21 3) &&& 31)) ≤ x3)
      (xm_br ((lg_cmp x4 0) = 0)
        (some (some (.int 1000000), σ))
        (xm_dvL x4 (some (some (.int (((x6 * 1000000) / x4).toInt32)), σ))))
      (xm_cI (X_Deals_alikeIn d x3 σ) (fun r2 σ1 => xm_br (r2 < x2)
        (xm_cI (X_Deals_following d x3 σ1) (fun r4 σ3 => X_Deals_chance_29 (d + 1) x2 r4 (x4 + 1) (x6 + 0) (x8 + 1) σ3))
        (xm_cI (X_Deals_following d x3 σ1) (fun r6 σ5 => X_Deals_chance_29 (d + 1) x2 r6 (x4 + 1) (x6 + 1) (x8 + 1) σ5))))) := (xm_it_eq [29] 29).trans rfl
noncomputable def X_TO_alike (d : Nat) (x1 : Int32) (σ : Sg) : Oz := xm_rn (xm_call d) 1 kc_TO_alike 0 [.ref 0, .int x1] [] σ
set_option maxHeartbeats 8000000 in
set_option maxRecDepth 20000 in
theorem X_TO_alike_e (d : Nat) (x1 : Int32) (σ : Sg) : X_TO_alike (d + 1) x1 σ =
  xm_cI (X_TO_isBit d x1 σ) (fun r2 σ1 => xm_br (r2 = 0)
    (some (some (.int (-2)), σ1))
    (xm_br (x1 = 0)
      (xm_cI (X_Records_likes d σ1) (fun r8 σ7 => some (some (.int r8), σ7)))
      (xm_cI (X_Records_counting d σ1) (fun r4 σ3 => xm_br (r4 ≤ 14)
        (xm_cI (X_Deals_chance d σ3) (fun r6 σ5 => some (some (.int r6), σ5)))
        (some (some (.int (-4)), σ3)))))) := (xm_it_eq [] 15).trans rfl
noncomputable def X_Shares_wholeWave (d : Nat) (x1 : Int32) (σ : Sg) : Oz := xm_rn (xm_call d) 2 kc_Shares_wholeWave 0 [.ref 19, .int x1, .null, .null, .null, .null, .null] [] σ
noncomputable def X_Shares_wholeWave_39 (d : Nat) (x1 : Int32) (x2 : Int64) (x4 : Int64) (x6 : Int32) (σ : Sg) : Oz := xm_rn (xm_call d) 2 kc_Shares_wholeWave 39 [.null, .int x1, .long x2, .null, .long x4, .null, .int x6] [] σ
set_option maxHeartbeats 8000000 in
set_option maxRecDepth 20000 in
theorem X_Shares_wholeWave_e (d : Nat) (x1 : Int32) (σ : Sg) : X_Shares_wholeWave d x1 σ =
  X_Shares_wholeWave_39 d x1 ((((σ.1 20 0) + (σ.1 20 1)) * ((σ.1 20 2) + (σ.1 20 3))).toInt64) (xm_lmin 1 ((((σ.1 20 0) + (σ.1 20 1)) * ((σ.1 20 2) + (σ.1 20 3))).toInt64)) 0 σ := (xm_it_eq [39] 28).trans rfl
set_option maxHeartbeats 8000000 in
set_option maxRecDepth 20000 in
theorem X_Shares_wholeWave_39_e (d : Nat) (x1 : Int32) (x2 : Int64) (x4 : Int64) (x6 : Int32) (σ : Sg) : X_Shares_wholeWave_39 d x1 x2 x4 x6 σ =
  xm_br (x1 ≤ x6)
    (some (some (.long x4), σ))
    (X_Shares_wholeWave_39 d x1 x2 (x4 * x2) (x6 + 1) σ) := (xm_it_eq [39] 10).trans rfl
noncomputable def X_Shares_ofWave (d : Nat) (x1 : Int32) (σ : Sg) : Oz := xm_rn (xm_call d) 2 kc_Shares_ofWave 0 [.ref 19, .int x1, .null, .null, .null, .null, .null] [] σ
noncomputable def X_Shares_ofWave_29 (d : Nat) (x1 : Int32) (x2 : Int64) (x4 : Int64) (x6 : Int32) (σ : Sg) : Oz := xm_rn (xm_call d) 2 kc_Shares_ofWave 29 [.ref 19, .int x1, .long x2, .null, .long x4, .null, .int x6] [] σ
set_option maxHeartbeats 8000000 in
set_option maxRecDepth 20000 in
theorem X_Shares_ofWave_e (d : Nat) (x1 : Int32) (σ : Sg) : X_Shares_ofWave d x1 σ =
  X_Shares_ofWave_29 d x1 (((σ.1 20 3).toInt64) * (((σ.1 20 0) + (σ.1 20 1)).toInt64)) 0 0 σ := (xm_it_eq [29] 22).trans rfl
set_option maxHeartbeats 8000000 in
set_option maxRecDepth 20000 in
theorem X_Shares_ofWave_29_e (d : Nat) (x1 : Int32) (x2 : Int64) (x4 : Int64) (x6 : Int32) (σ : Sg) : X_Shares_ofWave_29 (d + 1) x1 x2 x4 x6 σ =
  xm_br (x1 ≤ x6)
    (some (some (.long x4), σ))
    (xm_cL (X_Shares_wholeWave d x6 σ) (fun r2 σ1 => xm_cL (X_Shares_pull d 1 σ1) (fun r4 σ3 => X_Shares_ofWave_29 (d + 1) x1 x2 (((r2 - x4) * r4) + (x4 * x2)) (x6 + 1) σ3))) := (xm_it_eq [29] 20).trans rfl
noncomputable def X_TO_forgot (d : Nat) (x1 : Int32) (x2 : Int32) (σ : Sg) : Oz := xm_rn (xm_call d) 2 kc_TO_forgot 0 [.ref 0, .int x1, .int x2] [] σ
set_option maxHeartbeats 8000000 in
set_option maxRecDepth 20000 in
theorem X_TO_forgot_e (d : Nat) (x1 : Int32) (x2 : Int32) (σ : Sg) : X_TO_forgot (d + 1) x1 x2 σ =
  xm_br (x1 = (-1))
    (xm_cI (X_TO_isBit d x2 σ) (fun r2 σ1 => xm_br (r2 = 0)
      (xm_cL (X_TO_refusal d (-2) σ1) (fun r17 σ16 => some (some (.long r17), σ16)))
      (xm_cV (X_Shares_countBringing d σ1) (fun σ3 => xm_br (x1 = (-1))
        (xm_cL (X_Shares_pull d 1 σ3) (fun r11 σ10 => xm_cL (X_Shares_pull d 0 σ10) (fun r13 σ12 => xm_cL (X_TO_part d r11 r13 x2 σ12) (fun r15 σ14 => some (some (.long r15), σ14)))))
        (xm_cL (X_Shares_ofWave d x1 σ3) (fun r5 σ4 => xm_cL (X_Shares_wholeWave d x1 σ4) (fun r7 σ6 => xm_cL (X_TO_fraction d r5 r7 x2 σ6) (fun r9 σ8 => some (some (.long r9), σ8)))))))))
    (xm_cI (X_TO_isUpTo d x1 0 6 σ) (fun r19 σ18 => xm_br (r19 = 0)
      (xm_cL (X_TO_refusal d (-2) σ18) (fun r21 σ20 => some (some (.long r21), σ20)))
      (xm_cI (X_TO_isBit d x2 σ18) (fun r23 σ22 => xm_br (r23 = 0)
        (xm_cL (X_TO_refusal d (-2) σ22) (fun r38 σ37 => some (some (.long r38), σ37)))
        (xm_cV (X_Shares_countBringing d σ22) (fun σ24 => xm_br (x1 = (-1))
          (xm_cL (X_Shares_pull d 1 σ24) (fun r32 σ31 => xm_cL (X_Shares_pull d 0 σ31) (fun r34 σ33 => xm_cL (X_TO_part d r32 r34 x2 σ33) (fun r36 σ35 => some (some (.long r36), σ35)))))
          (xm_cL (X_Shares_ofWave d x1 σ24) (fun r26 σ25 => xm_cL (X_Shares_wholeWave d x1 σ25) (fun r28 σ27 => xm_cL (X_TO_fraction d r26 r28 x2 σ27) (fun r30 σ29 => some (some (.long r30), σ29))))))))))) := (xm_it_eq [] 29).trans rfl
noncomputable def X_Records_inWave (d : Nat) (x1 : Int32) (σ : Sg) : Oz := xm_rn (xm_call d) 1 kc_Records_inWave 0 [.ref 9, .int x1, .null, .null] [] σ
noncomputable def X_Records_inWave_4 (d : Nat) (x1 : Int32) (x2 : Int32) (x3 : Int32) (σ : Sg) : Oz := xm_rn (xm_call d) 1 kc_Records_inWave 4 [.ref 9, .int x1, .int x2, .int x3] [] σ
set_option maxHeartbeats 8000000 in
set_option maxRecDepth 20000 in
theorem X_Records_inWave_e (d : Nat) (x1 : Int32) (σ : Sg) : X_Records_inWave d x1 σ =
  X_Records_inWave_4 d x1 0 0 σ := (xm_it_eq [4] 5).trans rfl
set_option maxHeartbeats 8000000 in
set_option maxRecDepth 20000 in
theorem X_Records_inWave_4_e (d : Nat) (x1 : Int32) (x2 : Int32) (x3 : Int32) (σ : Sg) : X_Records_inWave_4 d x1 x2 x3 σ =
  xm_br ((σ.1 9 9) ≤ x3)
    (some (some (.int x2), σ))
    (xm_ix x3 24 (fun j1 => xm_br ((σ.1 18 j1) = 0)
      (X_Records_inWave_4 d x1 (x2 + 0) (x3 + 1) σ)
      (xm_ix x3 24 (fun j2 => xm_br ((σ.1 15 j2) = x1)
        (X_Records_inWave_4 d x1 (x2 + 1) (x3 + 1) σ)
        (X_Records_inWave_4 d x1 (x2 + 0) (x3 + 1) σ))))) := (xm_it_eq [4] 23).trans rfl
noncomputable def X_TO_wave (d : Nat) (x1 : Int32) (σ : Sg) : Oz := xm_rn (xm_call d) 1 kc_TO_wave 0 [.ref 0, .int x1] [] σ
set_option maxHeartbeats 8000000 in
set_option maxRecDepth 20000 in
theorem X_TO_wave_e (d : Nat) (x1 : Int32) (σ : Sg) : X_TO_wave (d + 1) x1 σ =
  xm_cI (X_TO_isUpTo d x1 0 23 σ) (fun r2 σ1 => xm_br (r2 = 0)
    (some (some (.int (-2)), σ1))
    (xm_cI (X_Records_inWave d x1 σ1) (fun r4 σ3 => some (some (.int r4), σ3)))) := (xm_it_eq [] 11).trans rfl
noncomputable def X_Marks_isSign (d : Nat) (x0 : Int32) (σ : Sg) : Oz := xm_rn (xm_call d) 3 kc_Marks_isSign 0 [.int x0] [] σ
set_option maxHeartbeats 8000000 in
set_option maxRecDepth 20000 in
theorem X_Marks_isSign_e (d : Nat) (x0 : Int32) (σ : Sg) : X_Marks_isSign d x0 σ =
  xm_br (x0 < 97)
    (xm_br (x0 = 63)
      (some (some (.int 1), σ))
      (some (some (.int 0), σ)))
    (xm_br (x0 ≤ 122)
      (some (some (.int 1), σ))
      (xm_br (x0 = 63)
        (some (some (.int 1), σ))
        (some (some (.int 0), σ)))) := (xm_it_eq [] 13).trans rfl
noncomputable def X_Marks_append (d : Nat) (x1 : Int32) (x2 : Int32) (σ : Sg) : Oz := xm_rn (xm_call d) 1 kc_Marks_append 0 [.ref 24, .int x1, .int x2] [] σ
set_option maxHeartbeats 8000000 in
set_option maxRecDepth 20000 in
theorem X_Marks_append_e (d : Nat) (x1 : Int32) (x2 : Int32) (σ : Sg) : X_Marks_append d x1 x2 σ =
  xm_ix x1 24 (fun j1 => xm_ix ((x1 * 8) + (σ.1 26 j1)) 192 (fun j2 => xm_ix x1 24 (fun j3 => xm_ix x1 24 (fun j4 => xm_ix x1 24 (fun j5 => some (some (.int (((xm_sI (xm_sI σ 25 j2 x2) 26 j4 ((σ.1 26 j3) + 1))).1 26 j5)), (xm_sI (xm_sI σ 25 j2 x2) 26 j4 ((σ.1 26 j3) + 1)))))))) := (xm_it_eq [] 26).trans rfl
noncomputable def X_TO_type (d : Nat) (x1 : Int32) (x2 : Int32) (σ : Sg) : Oz := xm_rn (xm_call d) 1 kc_TO_type 0 [.ref 0, .int x1, .int x2] [] σ
set_option maxHeartbeats 8000000 in
set_option maxRecDepth 20000 in
theorem X_TO_type_e (d : Nat) (x1 : Int32) (x2 : Int32) (σ : Sg) : X_TO_type (d + 1) x1 x2 σ =
  xm_cI (X_Records_holds d x1 σ) (fun r2 σ1 => xm_br (r2 = 0)
    (some (some (.int (-2)), σ1))
    (xm_cI (X_TO_isUpTo d x2 0 255 σ1) (fun r4 σ3 => xm_br (r4 = 0)
      (some (some (.int (-2)), σ3))
      (xm_cI (X_Marks_isSign d x2 σ3) (fun r6 σ5 => xm_br (r6 = 0)
        (some (some (.int (-3)), σ5))
        (xm_ix x1 24 (fun j7 => xm_br ((σ5.1 26 j7) < 8)
          (xm_cI (X_Marks_append d x1 x2 σ5) (fun r9 σ8 => some (some (.int r9), σ8)))
          (some (some (.int (-4)), σ5))))))))) := (xm_it_eq [] 27).trans rfl
noncomputable def X_TO_wipe (d : Nat) (x1 : Int32) (σ : Sg) : Oz := xm_rn (xm_call d) 1 kc_TO_wipe 0 [.ref 0, .int x1, .null] [] σ
set_option maxHeartbeats 8000000 in
set_option maxRecDepth 20000 in
theorem X_TO_wipe_e (d : Nat) (x1 : Int32) (σ : Sg) : X_TO_wipe (d + 1) x1 σ =
  xm_cI (X_Records_holds d x1 σ) (fun r2 σ1 => xm_br (r2 = 0)
    (some (some (.int (-2)), σ1))
    (xm_ix x1 24 (fun j3 => xm_ix x1 24 (fun j4 => some (some (.int (σ1.1 26 j3)), (xm_sI σ1 26 j4 0)))))) := (xm_it_eq [] 20).trans rfl
noncomputable def X_Marks_differ (d : Nat) (x1 : Int32) (x2 : Int32) (σ : Sg) : Oz := xm_rn (xm_call d) 3 kc_Marks_differ 0 [.ref 24, .int x1, .int x2, .null, .null, .null, .null] [] σ
noncomputable def X_Marks_differ_19 (d : Nat) (x1 : Int32) (x2 : Int32) (x3 : Int32) (x4 : Int32) (σ : Sg) : Oz := xm_rn (xm_call d) 3 kc_Marks_differ 19 [.ref 24, .int x1, .int x2, .int x3, .int x4, .null, .null] [] σ
set_option maxHeartbeats 8000000 in
set_option maxRecDepth 20000 in
theorem X_Marks_differ_e (d : Nat) (x1 : Int32) (x2 : Int32) (σ : Sg) : X_Marks_differ d x1 x2 σ =
  xm_ix x1 24 (fun j1 => xm_ix x2 24 (fun j2 => X_Marks_differ_19 d x1 x2 (xm_imin (σ.1 26 j1) (σ.1 26 j2)) 0 σ)) := (xm_it_eq [19] 13).trans rfl
set_option maxHeartbeats 8000000 in
set_option maxRecDepth 20000 in
theorem X_Marks_differ_19_e (d : Nat) (x1 : Int32) (x2 : Int32) (x3 : Int32) (x4 : Int32) (σ : Sg) : X_Marks_differ_19 d x1 x2 x3 x4 σ =
  xm_br (x3 ≤ x4)
    (some (some (.int 0), σ))
    (xm_ix ((x1 * 8) + x4) 192 (fun j1 => xm_ix ((x2 * 8) + x4) 192 (fun j2 => xm_br ((σ.1 25 j1) = (σ.1 25 j2))
      (X_Marks_differ_19 d x1 x2 x3 (x4 + 1) σ)
      (xm_br ((σ.1 25 j1) = 63)
        (X_Marks_differ_19 d x1 x2 x3 (x4 + 1) σ)
        (xm_br ((σ.1 25 j2) = 63)
          (X_Marks_differ_19 d x1 x2 x3 (x4 + 1) σ)
          (some (some (.int 1), σ))))))) := (xm_it_eq [19] 33).trans rfl
noncomputable def X_TO_clash (d : Nat) (x1 : Int32) (x2 : Int32) (σ : Sg) : Oz := xm_rn (xm_call d) 1 kc_TO_clash 0 [.ref 0, .int x1, .int x2] [] σ
set_option maxHeartbeats 8000000 in
set_option maxRecDepth 20000 in
theorem X_TO_clash_e (d : Nat) (x1 : Int32) (x2 : Int32) (σ : Sg) : X_TO_clash (d + 1) x1 x2 σ =
  xm_cI (X_Records_holds d x1 σ) (fun r2 σ1 => xm_br (r2 = 0)
    (some (some (.int (-2)), σ1))
    (xm_cI (X_Records_holds d x2 σ1) (fun r4 σ3 => xm_br (r4 = 0)
      (some (some (.int (-2)), σ3))
      (xm_cI (X_Marks_differ d x1 x2 σ3) (fun r6 σ5 => xm_br (r6 = 0)
        (some (some (.int 0), σ5))
        (some (some (.int 1), σ5))))))) := (xm_it_eq [] 20).trans rfl
noncomputable def X_Arr_fillI_c30 (d : Nat) (x1 : Int32) (σ : Sg) : Oz := xm_rn (xm_call d) 0 kc_Arr_fillI 0 [.ref 30, .int x1, .null, .null] [] σ
noncomputable def X_Arr_fillI_c30_5 (d : Nat) (x1 : Int32) (x2 : Int32) (x3 : Int32) (σ : Sg) : Oz := xm_rn (xm_call d) 0 kc_Arr_fillI 5 [.ref 30, .int x1, .int x2, .int x3] [] σ
set_option maxHeartbeats 8000000 in
set_option maxRecDepth 20000 in
theorem X_Arr_fillI_c30_e (d : Nat) (x1 : Int32) (σ : Sg) : X_Arr_fillI_c30 d x1 σ =
  X_Arr_fillI_c30_5 d x1 0 12 σ := (xm_it_eq [5] 6).trans rfl
set_option maxHeartbeats 8000000 in
set_option maxRecDepth 20000 in
theorem X_Arr_fillI_c30_5_e (d : Nat) (x1 : Int32) (x2 : Int32) (x3 : Int32) (σ : Sg) : X_Arr_fillI_c30_5 d x1 x2 x3 σ =
  xm_br (x3 ≤ x2)
    (some (none, σ))
    (xm_ix x2 12 (fun j1 => X_Arr_fillI_c30_5 d x1 (x2 + 1) x3 (xm_sI σ 30 j1 x1))) := (xm_it_eq [5] 10).trans rfl
noncomputable def X_Marks_gather (d : Nat)  (σ : Sg) : Oz := xm_rn (xm_call d) 0 kc_Marks_gather 0 [.ref 24, .null, .null] [] σ
noncomputable def X_Marks_gather_7 (d : Nat) (x1 : Int32) (σ : Sg) : Oz := xm_rn (xm_call d) 0 kc_Marks_gather 7 [.ref 24, .int x1, .null] [] σ
noncomputable def X_Marks_gather_67 (d : Nat) (x1 : Int32) (σ : Sg) : Oz := xm_rn (xm_call d) 0 kc_Marks_gather 67 [.ref 24, .int x1, .null] [] σ
noncomputable def X_Marks_gather_84 (d : Nat) (x1 : Int32) (x2 : Int32) (σ : Sg) : Oz := xm_rn (xm_call d) 0 kc_Marks_gather 84 [.ref 24, .int x1, .int x2] [] σ
set_option maxHeartbeats 8000000 in
set_option maxRecDepth 20000 in
theorem X_Marks_gather_e (d : Nat)  (σ : Sg) : X_Marks_gather d σ =
  X_Marks_gather_7 d 0 (xm_sI σ 24 7 0) := (xm_it_eq [7, 67, 84] 6).trans rfl
set_option maxHeartbeats 8000000 in
set_option maxRecDepth 20000 in
theorem X_Marks_gather_7_e (d : Nat) (x1 : Int32) (σ : Sg) : X_Marks_gather_7 d x1 σ =
  xm_br ((σ.1 9 9) ≤ x1)
    (X_Marks_gather_67 d 0 σ)
    (xm_br (12 ≤ (σ.1 24 7))
      (X_Marks_gather_67 d 0 σ)
      (xm_ix x1 24 (fun j1 => xm_br ((σ.1 18 j1) = 0)
        (X_Marks_gather_7 d (x1 + 1) σ)
        (xm_ix (σ.1 24 7) 12 (fun j2 => X_Marks_gather_7 d (x1 + 1) (xm_sI (xm_sI σ 27 j2 x1) 24 7 ((σ.1 24 7) + 1))))))) := (xm_it_eq [7, 67, 84] 30).trans rfl
set_option maxHeartbeats 8000000 in
set_option maxRecDepth 20000 in
theorem X_Marks_gather_67_e (d : Nat) (x1 : Int32) (σ : Sg) : X_Marks_gather_67 d x1 σ =
  xm_br ((σ.1 24 7) ≤ x1)
    (some (none, σ))
    (xm_ix x1 12 (fun j1 => X_Marks_gather_84 d x1 0 (xm_sI σ 28 j1 0))) := (xm_it_eq [7, 67, 84] 12).trans rfl
set_option maxHeartbeats 8000000 in
set_option maxRecDepth 20000 in
theorem X_Marks_gather_84_e (d : Nat) (x1 : Int32) (x2 : Int32) (σ : Sg) : X_Marks_gather_84 (d + 1) x1 x2 σ =
  xm_br ((σ.1 24 7) ≤ x2)
    (X_Marks_gather_67 (d + 1) (x1 + 1) σ)
    (xm_ix x1 12 (fun j1 => xm_ix x1 12 (fun j2 => xm_ix x2 12 (fun j3 => xm_cI (X_Marks_differ d (σ.1 27 j2) (σ.1 27 j3) σ) (fun r5 σ4 => xm_br (r5 = 0)
      (xm_ix x1 12 (fun j6 => X_Marks_gather_84 (d + 1) x1 (x2 + 1) (xm_sI σ4 28 j6 ((σ.1 28 j1) ||| 0))))
      (xm_ix x1 12 (fun j7 => X_Marks_gather_84 (d + 1) x1 (x2 + 1) (xm_sI σ4 28 j7 ((σ.1 28 j1) ||| ((1 : Int32) <<< (x2 &&& 31))))))))))) := (xm_it_eq [7, 67, 84] 29).trans rfl
noncomputable def X_Marks_apartForSure (d : Nat)  (σ : Sg) : Oz := xm_rn (xm_call d) 1 kc_Marks_apartForSure 0 [.ref 24, .null, .null, .null, .null, .null] [] σ
noncomputable def X_Marks_apartForSure_4 (d : Nat) (x1 : Int32) (x2 : Int32) (σ : Sg) : Oz := xm_rn (xm_call d) 1 kc_Marks_apartForSure 4 [.ref 24, .int x1, .int x2, .null, .null, .null] [] σ
noncomputable def X_Marks_apartForSure_25 (d : Nat) (x1 : Int32) (x2 : Int32) (x3 : Int32) (x4 : Int32) (x5 : Int32) (σ : Sg) : Oz := xm_rn (xm_call d) 1 kc_Marks_apartForSure 25 [.ref 24, .int x1, .int x2, .int x3, .int x4, .int x5] [] σ
set_option maxHeartbeats 8000000 in
set_option maxRecDepth 20000 in
theorem X_Marks_apartForSure_e (d : Nat)  (σ : Sg) : X_Marks_apartForSure d σ =
  X_Marks_apartForSure_4 d 0 0 σ := (xm_it_eq [4, 25] 5).trans rfl
set_option maxHeartbeats 8000000 in
set_option maxRecDepth 20000 in
theorem X_Marks_apartForSure_4_e (d : Nat) (x1 : Int32) (x2 : Int32) (σ : Sg) : X_Marks_apartForSure_4 d x1 x2 σ =
  xm_br ((σ.1 24 7) ≤ x2)
    (some (some (.int x1), σ))
    (xm_ix x2 12 (fun j1 => X_Marks_apartForSure_25 d x1 x2 1 (σ.1 28 j1) 0 σ)) := (xm_it_eq [4, 25] 14).trans rfl
set_option maxHeartbeats 8000000 in
set_option maxRecDepth 20000 in
theorem X_Marks_apartForSure_25_e (d : Nat) (x1 : Int32) (x2 : Int32) (x3 : Int32) (x4 : Int32) (x5 : Int32) (σ : Sg) : X_Marks_apartForSure_25 d x1 x2 x3 x4 x5 σ =
  xm_br ((σ.1 24 7) ≤ x5)
    (X_Marks_apartForSure_4 d (xm_imax x1 x3) (x2 + 1) σ)
    (xm_br (((x4 >>> (x5 &&& 31)) &&& 1) = 1)
      (xm_ix x5 12 (fun j1 => X_Marks_apartForSure_25 d x1 x2 (x3 + 1) (x4 &&& (σ.1 28 j1)) (x5 + 1) σ))
      (X_Marks_apartForSure_25 d x1 x2 x3 x4 (x5 + 1) σ)) := (xm_it_eq [4, 25] 22).trans rfl
noncomputable def X_Marks_deal (d : Nat) (x1 : Int32) (x2 : Int32) (x3 : Int32) (σ : Sg) : Oz := xm_rn (xm_call d) 3 kc_Marks_deal 0 [.ref 24, .int x1, .int x2, .int x3, .null, .null] [] σ
noncomputable def X_Marks_deal_22 (d : Nat) (x1 : Int32) (x2 : Int32) (x3 : Int32) (x4 : Int32) (x5 : Int32) (σ : Sg) : Oz := xm_rn (xm_call d) 3 kc_Marks_deal 22 [.ref 24, .int x1, .int x2, .int x3, .int x4, .int x5] [] σ
set_option maxHeartbeats 8000000 in
set_option maxRecDepth 20000 in
theorem X_Marks_deal_e (d : Nat) (x1 : Int32) (x2 : Int32) (x3 : Int32) (σ : Sg) : X_Marks_deal d x1 x2 x3 σ =
  xm_br (x1 < (σ.1 24 7))
    (X_Marks_deal_22 d x1 x2 x3 (xm_imin (x2 + 1) x3) 0 σ)
    (some (some (.int 1), σ)) := (xm_it_eq [22] 13).trans rfl
set_option maxHeartbeats 8000000 in
set_option maxRecDepth 20000 in
theorem X_Marks_deal_22_e (d : Nat) (x1 : Int32) (x2 : Int32) (x3 : Int32) (x4 : Int32) (x5 : Int32) (σ : Sg) : X_Marks_deal_22 (d + 1) x1 x2 x3 x4 x5 σ =
  xm_br (x4 ≤ x5)
    (some (some (.int 0), σ))
    (xm_ix x5 12 (fun j1 => xm_ix x1 12 (fun j2 => xm_br (((σ.1 30 j1) &&& (σ.1 28 j2)) = 0)
      (xm_ix x5 12 (fun j3 => xm_ix x5 12 (fun j4 => xm_ix x1 12 (fun j5 => xm_cI (X_Marks_deal d (x1 + 1) (xm_imax x2 (x5 + 1)) x3 (xm_sI (xm_sI σ 30 j4 ((σ.1 30 j3) ||| ((1 : Int32) <<< (x1 &&& 31)))) 29 j5 x5)) (fun r7 σ6 => xm_br (r7 = 0)
        (xm_ix x5 12 (fun j8 => xm_ix x5 12 (fun j9 => X_Marks_deal_22 (d + 1) x1 x2 x3 x4 (x5 + 1) (xm_sI σ6 30 j9 ((σ6.1 30 j8) &&& (((1 : Int32) <<< (x1 &&& 31)) ^^^ (-1)))))))
        (some (some (.int 1), σ6)))))))
      (X_Marks_deal_22 (d + 1) x1 x2 x3 x4 (x5 + 1) σ)))) := (xm_it_eq [22] 55).trans rfl
noncomputable def X_Marks_tellApart (d : Nat)  (σ : Sg) : Oz := xm_rn (xm_call d) 1 kc_Marks_tellApart 0 [.ref 24, .null] [] σ
noncomputable def X_Marks_tellApart_9 (d : Nat) (x1 : Int32) (σ : Sg) : Oz := xm_rn (xm_call d) 1 kc_Marks_tellApart 9 [.ref 24, .int x1] [] σ
set_option maxHeartbeats 8000000 in
set_option maxRecDepth 20000 in
theorem X_Marks_tellApart_e (d : Nat)  (σ : Sg) : X_Marks_tellApart (d + 1) σ =
  xm_cV (X_Marks_gather d σ) (fun σ1 => xm_cI (X_Marks_apartForSure d σ1) (fun r3 σ2 => X_Marks_tellApart_9 (d + 1) r3 σ2)) := (xm_it_eq [9] 6).trans rfl
set_option maxHeartbeats 8000000 in
set_option maxRecDepth 20000 in
theorem X_Marks_tellApart_9_e (d : Nat) (x1 : Int32) (σ : Sg) : X_Marks_tellApart_9 (d + 1) x1 σ =
  xm_br ((σ.1 24 7) ≤ x1)
    (xm_cV (X_Arr_fillI_c30 d 0 σ) (fun σ1 => xm_cI (X_Marks_deal d 0 0 (σ1.1 24 7) σ1) (fun r3 σ2 => some (some (.int (σ2.1 24 7)), σ2))))
    (xm_cV (X_Arr_fillI_c30 d 0 σ) (fun σ4 => xm_cI (X_Marks_deal d 0 0 x1 σ4) (fun r6 σ5 => xm_br (r6 = 0)
      (X_Marks_tellApart_9 (d + 1) (x1 + 1) σ5)
      (some (some (.int x1), σ5))))) := (xm_it_eq [9] 19).trans rfl
noncomputable def X_TO_least (d : Nat)  (σ : Sg) : Oz := xm_rn (xm_call d) 1 kc_TO_least 0 [.ref 0] [] σ
set_option maxHeartbeats 8000000 in
set_option maxRecDepth 20000 in
theorem X_TO_least_e (d : Nat)  (σ : Sg) : X_TO_least (d + 1) σ =
  xm_cI (X_Records_counting d σ) (fun r2 σ1 => xm_br (r2 ≤ 12)
    (xm_cI (X_Marks_tellApart d σ1) (fun r4 σ3 => some (some (.int r4), σ3)))
    (some (some (.int (-4)), σ1))) := (xm_it_eq [] 10).trans rfl
noncomputable def X_Marks_personOf (d : Nat) (x1 : Int32) (σ : Sg) : Oz := xm_rn (xm_call d) 1 kc_Marks_personOf 0 [.ref 24, .int x1, .null] [] σ
noncomputable def X_Marks_personOf_2 (d : Nat) (x1 : Int32) (x2 : Int32) (σ : Sg) : Oz := xm_rn (xm_call d) 1 kc_Marks_personOf 2 [.ref 24, .int x1, .int x2] [] σ
set_option maxHeartbeats 8000000 in
set_option maxRecDepth 20000 in
theorem X_Marks_personOf_e (d : Nat) (x1 : Int32) (σ : Sg) : X_Marks_personOf d x1 σ =
  X_Marks_personOf_2 d x1 0 σ := (xm_it_eq [2] 3).trans rfl
set_option maxHeartbeats 8000000 in
set_option maxRecDepth 20000 in
theorem X_Marks_personOf_2_e (d : Nat) (x1 : Int32) (x2 : Int32) (σ : Sg) : X_Marks_personOf_2 d x1 x2 σ =
  xm_br ((σ.1 24 7) ≤ x2)
    (some (some (.int (-1)), σ))
    (xm_ix x2 12 (fun j1 => xm_br ((σ.1 27 j1) = x1)
      (xm_ix x2 12 (fun j2 => some (some (.int (σ.1 29 j2)), σ)))
      (X_Marks_personOf_2 d x1 (x2 + 1) σ))) := (xm_it_eq [2] 16).trans rfl
noncomputable def X_TO_ones (d : Nat) (x1 : Int32) (σ : Sg) : Oz := xm_rn (xm_call d) 1 kc_TO_ones 0 [.ref 0, .int x1] [] σ
set_option maxHeartbeats 8000000 in
set_option maxRecDepth 20000 in
theorem X_TO_ones_e (d : Nat) (x1 : Int32) (σ : Sg) : X_TO_ones (d + 1) x1 σ =
  xm_cI (X_Records_holds d x1 σ) (fun r2 σ1 => xm_br (r2 = 0)
    (some (some (.int (-2)), σ1))
    (xm_cI (X_Records_counting d σ1) (fun r4 σ3 => xm_br (r4 ≤ 12)
      (xm_ix x1 24 (fun j5 => xm_br ((σ3.1 18 j5) = 0)
        (some (some (.int (-1)), σ3))
        (xm_cI (X_Marks_tellApart d σ3) (fun r7 σ6 => xm_cI (X_Marks_personOf d x1 σ6) (fun r9 σ8 => some (some (.int r9), σ8))))))
      (some (some (.int (-4)), σ3))))) := (xm_it_eq [] 26).trans rfl
noncomputable def X_Net_fewestReaching (d : Nat) (x1 : Int32) (σ : Sg) : Oz := xm_rn (xm_call d) 1 kc_Net_fewestReaching 0 [.ref 1, .int x1, .null, .null, .null] [] σ
noncomputable def X_Net_fewestReaching_7 (d : Nat) (x1 : Int32) (x2 : Int32) (x3 : Int32) (σ : Sg) : Oz := xm_rn (xm_call d) 1 kc_Net_fewestReaching 7 [.ref 1, .int x1, .int x2, .int x3, .null] [] σ
set_option maxHeartbeats 8000000 in
set_option maxRecDepth 20000 in
theorem X_Net_fewestReaching_e (d : Nat) (x1 : Int32) (σ : Sg) : X_Net_fewestReaching (d + 1) x1 σ =
  xm_cI (X_Net_everyone d σ) (fun r2 σ1 => X_Net_fewestReaching_7 (d + 1) x1 r2 1 σ1) := (xm_it_eq [7] 6).trans rfl
set_option maxHeartbeats 8000000 in
set_option maxRecDepth 20000 in
theorem X_Net_fewestReaching_7_e (d : Nat) (x1 : Int32) (x2 : Int32) (x3 : Int32) (σ : Sg) : X_Net_fewestReaching_7 (d + 1) x1 x2 x3 σ =
  xm_cI (X_Net_everyone d σ) (fun r2 σ1 => xm_br (r2 ≤ x3)
    (some (some (.int x2), σ1))
    (xm_cI (X_Int_bitCount d x3 σ1) (fun r4 σ3 => xm_cI (X_Int_bitCount d x2 σ3) (fun r6 σ5 => xm_br (r6 ≤ r4)
      (X_Net_fewestReaching_7 (d + 1) x1 x2 (x3 + 1) σ5)
      (xm_cI (X_Net_everyone d σ5) (fun r8 σ7 => xm_cI (X_Net_spread d x3 x1 r8 σ7) (fun r10 σ9 => xm_cI (X_Net_everyone d σ9) (fun r12 σ11 => xm_br (r10 = r12)
        (X_Net_fewestReaching_7 (d + 1) x1 x3 (x3 + 1) σ11)
        (X_Net_fewestReaching_7 (d + 1) x1 x2 (x3 + 1) σ11))))))))) := (xm_it_eq [7] 28).trans rfl
noncomputable def X_TO_reach (d : Nat) (x1 : Int32) (σ : Sg) : Oz := xm_rn (xm_call d) 1 kc_TO_reach 0 [.ref 0, .int x1] [] σ
set_option maxHeartbeats 8000000 in
set_option maxRecDepth 20000 in
theorem X_TO_reach_e (d : Nat) (x1 : Int32) (σ : Sg) : X_TO_reach (d + 1) x1 σ =
  xm_cI (X_TO_isUpTo d x1 0 8 σ) (fun r2 σ1 => xm_br (r2 = 0)
    (some (some (.int (-2)), σ1))
    (xm_cI (X_Net_fewestReaching d x1 σ1) (fun r4 σ3 => some (some (.int r4), σ3)))) := (xm_it_eq [] 11).trans rfl
noncomputable def X_Net_pieces (d : Nat) (x1 : Int32) (σ : Sg) : Oz := xm_rn (xm_call d) 1 kc_Net_pieces 0 [.ref 1, .int x1, .null, .null, .null] [] σ
noncomputable def X_Net_pieces_7 (d : Nat) (x1 : Int32) (x2 : Int32) (x3 : Int32) (x4 : Int32) (σ : Sg) : Oz := xm_rn (xm_call d) 1 kc_Net_pieces 7 [.ref 1, .int x1, .int x2, .int x3, .int x4] [] σ
set_option maxHeartbeats 8000000 in
set_option maxRecDepth 20000 in
theorem X_Net_pieces_e (d : Nat) (x1 : Int32) (σ : Sg) : X_Net_pieces d x1 σ =
  X_Net_pieces_7 d x1 0 x1 0 σ := (xm_it_eq [7] 7).trans rfl
set_option maxHeartbeats 8000000 in
set_option maxRecDepth 20000 in
theorem X_Net_pieces_7_e (d : Nat) (x1 : Int32) (x2 : Int32) (x3 : Int32) (x4 : Int32) (σ : Sg) : X_Net_pieces_7 (d + 1) x1 x2 x3 x4 σ =
  xm_br (9 ≤ x4)
    (some (some (.int x2), σ))
    (xm_br (x3 = 0)
      (some (some (.int x2), σ))
      (xm_cI (X_Int_lowestOneBit d x3 σ) (fun r2 σ1 => xm_cI (X_Net_spread d r2 9 x1 σ1) (fun r4 σ3 => X_Net_pieces_7 (d + 1) x1 (x2 + 1) (x3 &&& (r4 ^^^ (-1))) (x4 + 1) σ3)))) := (xm_it_eq [7] 20).trans rfl
noncomputable def X_Net_bridges (d : Nat)  (σ : Sg) : Oz := xm_rn (xm_call d) 1 kc_Net_bridges 0 [.ref 1, .null, .null, .null] [] σ
noncomputable def X_Net_bridges_13 (d : Nat) (x1 : Int32) (x2 : Int32) (x3 : Int32) (σ : Sg) : Oz := xm_rn (xm_call d) 1 kc_Net_bridges 13 [.ref 1, .int x1, .int x2, .int x3] [] σ
set_option maxHeartbeats 8000000 in
set_option maxRecDepth 20000 in
theorem X_Net_bridges_e (d : Nat)  (σ : Sg) : X_Net_bridges (d + 1) σ =
  xm_cI (X_Net_everyone d σ) (fun r2 σ1 => xm_cI (X_Net_pieces d r2 σ1) (fun r4 σ3 => X_Net_bridges_13 (d + 1) 0 r4 0 σ3)) := (xm_it_eq [13] 10).trans rfl
set_option maxHeartbeats 8000000 in
set_option maxRecDepth 20000 in
theorem X_Net_bridges_13_e (d : Nat) (x1 : Int32) (x2 : Int32) (x3 : Int32) (σ : Sg) : X_Net_bridges_13 (d + 1) x1 x2 x3 σ =
  xm_br ((σ.1 1 1) ≤ x3)
    (some (some (.int x1), σ))
    (xm_cI (X_Net_everyone d σ) (fun r2 σ1 => xm_cI (X_Net_pieces d (r2 &&& (((1 : Int32) <<< (x3 &&& 31)) ^^^ (-1))) σ1) (fun r4 σ3 => xm_br (r4 ≤ x2)
      (X_Net_bridges_13 (d + 1) x1 x2 (x3 + 1) σ3)
      (X_Net_bridges_13 (d + 1) (x1 ||| ((1 : Int32) <<< (x3 &&& 31))) x2 (x3 + 1) σ3)))) := (xm_it_eq [13] 25).trans rfl
noncomputable def X_TO_parts (d : Nat) (x1 : Int32) (σ : Sg) : Oz := xm_rn (xm_call d) 1 kc_TO_parts 0 [.ref 0, .int x1] [] σ
set_option maxHeartbeats 8000000 in
set_option maxRecDepth 20000 in
theorem X_TO_parts_e (d : Nat) (x1 : Int32) (σ : Sg) : X_TO_parts (d + 1) x1 σ =
  xm_cI (X_TO_isBit d x1 σ) (fun r2 σ1 => xm_br (r2 = 0)
    (some (some (.int (-2)), σ1))
    (xm_br (x1 = 0)
      (xm_cI (X_Net_everyone d σ1) (fun r6 σ5 => xm_cI (X_Net_pieces d r6 σ5) (fun r8 σ7 => some (some (.int r8), σ7))))
      (xm_cI (X_Net_bridges d σ1) (fun r4 σ3 => some (some (.int r4), σ3))))) := (xm_it_eq [] 14).trans rfl
noncomputable def X_Net_leadingOut (d : Nat) (x1 : Int32) (σ : Sg) : Oz := xm_rn (xm_call d) 1 kc_Net_leadingOut 0 [.ref 1, .int x1, .null, .null] [] σ
noncomputable def X_Net_leadingOut_4 (d : Nat) (x1 : Int32) (x2 : Int32) (x3 : Int32) (σ : Sg) : Oz := xm_rn (xm_call d) 1 kc_Net_leadingOut 4 [.ref 1, .int x1, .int x2, .int x3] [] σ
set_option maxHeartbeats 8000000 in
set_option maxRecDepth 20000 in
theorem X_Net_leadingOut_e (d : Nat) (x1 : Int32) (σ : Sg) : X_Net_leadingOut d x1 σ =
  X_Net_leadingOut_4 d x1 0 0 σ := (xm_it_eq [4] 5).trans rfl
set_option maxHeartbeats 8000000 in
set_option maxRecDepth 20000 in
theorem X_Net_leadingOut_4_e (d : Nat) (x1 : Int32) (x2 : Int32) (x3 : Int32) (σ : Sg) : X_Net_leadingOut_4 (d + 1) x1 x2 x3 σ =
  xm_br ((σ.1 1 1) ≤ x3)
    (some (some (.int x2), σ))
    (xm_ix x3 9 (fun j1 => xm_cI (X_Int_bitCount d ((σ.1 2 j1) &&& (x1 ^^^ (-1))) σ) (fun r3 σ2 => X_Net_leadingOut_4 (d + 1) x1 (x2 + (((x1 >>> (x3 &&& 31)) &&& 1) * r3)) (x3 + 1) σ2))) := (xm_it_eq [4] 25).trans rfl
noncomputable def X_Net_narrowest (d : Nat)  (σ : Sg) : Oz := xm_rn (xm_call d) 1 kc_Net_narrowest 0 [.ref 1, .null, .null, .null, .null, .null, .null, .null] [] σ
noncomputable def X_Net_narrowest_19 (d : Nat) (x1 : Int32) (x2 : Int32) (x3 : Int32) (x4 : Int32) (x5 : Int32) (σ : Sg) : Oz := xm_rn (xm_call d) 1 kc_Net_narrowest 19 [.ref 1, .int x1, .int x2, .int x3, .int x4, .int x5, .null, .null] [] σ
set_option maxHeartbeats 8000000 in
set_option maxRecDepth 20000 in
theorem X_Net_narrowest_e (d : Nat)  (σ : Sg) : X_Net_narrowest (d + 1) σ =
  xm_cI (X_Net_everyone d σ) (fun r2 σ1 => xm_cI (X_Net_degrees d r2 σ1) (fun r4 σ3 => X_Net_narrowest_19 (d + 1) 0 0 0 r4 1 σ3)) := (xm_it_eq [19] 14).trans rfl
set_option maxHeartbeats 8000000 in
set_option maxRecDepth 20000 in
theorem X_Net_narrowest_19_e (d : Nat) (x1 : Int32) (x2 : Int32) (x3 : Int32) (x4 : Int32) (x5 : Int32) (σ : Sg) : X_Net_narrowest_19 (d + 1) x1 x2 x3 x4 x5 σ =
  xm_cI (X_Net_everyone d σ) (fun r2 σ1 => xm_br (r2 < x5)
    (some (some (.int x1), σ1))
    (xm_cI (X_Net_degrees d x5 σ1) (fun r4 σ3 => xm_br (r4 = 0)
      (X_Net_narrowest_19 (d + 1) x1 x2 x3 x4 (x5 + 1) σ3)
      (xm_br ((2 * r4) ≤ x4)
        (xm_cI (X_Net_leadingOut d x5 σ3) (fun r6 σ5 => xm_br (x1 = 0)
          (X_Net_narrowest_19 (d + 1) x5 r6 r4 x4 (x5 + 1) σ5)
          (xm_br ((x2 * r4) ≤ (r6 * x3))
            (X_Net_narrowest_19 (d + 1) x1 x2 x3 x4 (x5 + 1) σ5)
            (X_Net_narrowest_19 (d + 1) x5 r6 r4 x4 (x5 + 1) σ5))))
        (X_Net_narrowest_19 (d + 1) x1 x2 x3 x4 (x5 + 1) σ3))))) := (xm_it_eq [19] 37).trans rfl
noncomputable def X_TO_narrow (d : Nat) (x1 : Int32) (σ : Sg) : Oz := xm_rn (xm_call d) 2 kc_TO_narrow 0 [.ref 0, .int x1, .null] [] σ
set_option maxHeartbeats 8000000 in
set_option maxRecDepth 20000 in
theorem X_TO_narrow_e (d : Nat) (x1 : Int32) (σ : Sg) : X_TO_narrow (d + 1) x1 σ =
  xm_cI (X_TO_isUpTo d x1 0 2 σ) (fun r2 σ1 => xm_br (r2 = 0)
    (xm_cL (X_TO_refusal d (-2) σ1) (fun r12 σ11 => some (some (.long r12), σ11)))
    (xm_cI (X_Net_narrowest d σ1) (fun r4 σ3 => xm_br (x1 = 2)
      (xm_br (r4 = 0)
        (some (some (.long (-1)), σ3))
        (some (some (.long r4.toInt64), σ3)))
      (xm_cI (X_Net_leadingOut d r4 σ3) (fun r6 σ5 => xm_cI (X_Net_degrees d r4 σ5) (fun r8 σ7 => xm_cL (X_TO_fraction d r6.toInt64 r8.toInt64 x1 σ7) (fun r10 σ9 => some (some (.long r10), σ9)))))))) := (xm_it_eq [] 26).trans rfl
noncomputable def X_Sheets_isForm (d : Nat) (x0 : Int32) (σ : Sg) : Oz := xm_rn (xm_call d) 3 kc_Sheets_isForm 0 [.int x0] [] σ
set_option maxHeartbeats 8000000 in
set_option maxRecDepth 20000 in
theorem X_Sheets_isForm_e (d : Nat) (x0 : Int32) (σ : Sg) : X_Sheets_isForm d x0 σ =
  xm_br (x0 < 0)
    (some (some (.int 0), σ))
    (xm_br (2 < x0)
      (some (some (.int 0), σ))
      (some (some (.int 1), σ))) := (xm_it_eq [] 9).trans rfl
noncomputable def X_Arr_fillI_c35 (d : Nat) (x1 : Int32) (σ : Sg) : Oz := xm_rn (xm_call d) 0 kc_Arr_fillI 0 [.ref 35, .int x1, .null, .null] [] σ
noncomputable def X_Arr_fillI_c35_5 (d : Nat) (x1 : Int32) (x2 : Int32) (x3 : Int32) (σ : Sg) : Oz := xm_rn (xm_call d) 0 kc_Arr_fillI 5 [.ref 35, .int x1, .int x2, .int x3] [] σ
set_option maxHeartbeats 8000000 in
set_option maxRecDepth 20000 in
theorem X_Arr_fillI_c35_e (d : Nat) (x1 : Int32) (σ : Sg) : X_Arr_fillI_c35 d x1 σ =
  X_Arr_fillI_c35_5 d x1 0 60 σ := (xm_it_eq [5] 6).trans rfl
set_option maxHeartbeats 8000000 in
set_option maxRecDepth 20000 in
theorem X_Arr_fillI_c35_5_e (d : Nat) (x1 : Int32) (x2 : Int32) (x3 : Int32) (σ : Sg) : X_Arr_fillI_c35_5 d x1 x2 x3 σ =
  xm_br (x3 ≤ x2)
    (some (none, σ))
    (xm_ix x2 60 (fun j1 => X_Arr_fillI_c35_5 d x1 (x2 + 1) x3 (xm_sI σ 35 j1 x1))) := (xm_it_eq [5] 10).trans rfl
noncomputable def X_Arr_fillI_c36 (d : Nat) (x1 : Int32) (σ : Sg) : Oz := xm_rn (xm_call d) 0 kc_Arr_fillI 0 [.ref 36, .int x1, .null, .null] [] σ
noncomputable def X_Arr_fillI_c36_5 (d : Nat) (x1 : Int32) (x2 : Int32) (x3 : Int32) (σ : Sg) : Oz := xm_rn (xm_call d) 0 kc_Arr_fillI 5 [.ref 36, .int x1, .int x2, .int x3] [] σ
set_option maxHeartbeats 8000000 in
set_option maxRecDepth 20000 in
theorem X_Arr_fillI_c36_e (d : Nat) (x1 : Int32) (σ : Sg) : X_Arr_fillI_c36 d x1 σ =
  X_Arr_fillI_c36_5 d x1 0 60 σ := (xm_it_eq [5] 6).trans rfl
set_option maxHeartbeats 8000000 in
set_option maxRecDepth 20000 in
theorem X_Arr_fillI_c36_5_e (d : Nat) (x1 : Int32) (x2 : Int32) (x3 : Int32) (σ : Sg) : X_Arr_fillI_c36_5 d x1 x2 x3 σ =
  xm_br (x3 ≤ x2)
    (some (none, σ))
    (xm_ix x2 60 (fun j1 => X_Arr_fillI_c36_5 d x1 (x2 + 1) x3 (xm_sI σ 36 j1 x1))) := (xm_it_eq [5] 10).trans rfl
