noncomputable def X_Mod_millionths (d : Nat) (x0 : Int64) (x2 : Int64) (σ : Sg) : Oz := xm_rn (xm_call d) 1 kc_Mod_millionths 0 [.long x0, .null, .long x2, .null] [] σ
set_option maxHeartbeats 8000000 in
set_option maxRecDepth 20000 in
theorem X_Mod_millionths_e (d : Nat) (x0 : Int64) (x2 : Int64) (σ : Sg) : X_Mod_millionths d x0 x2 σ =
  xm_dvL x2 (some (some (.int (((1000000 * x0) / x2).toInt32)), σ)) := (xm_it_eq [] 8).trans rfl
noncomputable def X_Mod_alikeOf (d : Nat) (x1 : Int32) (σ : Sg) : Oz := xm_rn (xm_call d) 1 kc_Mod_alikeOf 0 [.ref 39, .int x1, .null, .null, .null, .null, .null] [] σ
noncomputable def X_Mod_alikeOf_42 (d : Nat) (x2 : Int32) (x3 : Int32) (x4 : Int32) (x5 : Int32) (x6 : Int32) (σ : Sg) : Oz := xm_rn (xm_call d) 1 kc_Mod_alikeOf 42 [.ref 39, .null, .int x2, .int x3, .int x4, .int x5, .int x6] [] σ
set_option maxHeartbeats 8000000 in
set_option maxRecDepth 20000 in
theorem X_Mod_alikeOf_e (d : Nat) (x1 : Int32) (σ : Sg) : X_Mod_alikeOf (d + 1) x1 σ =
  xm_cV (X_Mod_findWho d σ) (fun σ1 => xm_cI (X_Mod_kindBits d σ1) (fun r3 σ2 => xm_cI (X_Mod_likes d r3 σ2) (fun r5 σ4 => xm_br (x1 = 0)
    (some (some (.int r5), σ4))
    (xm_br ((σ4.1 39 45) ≤ 14)
      (X_Mod_alikeOf_42 (d + 1) r3 r5 0 0 0 σ4)
      (some (some (.int (-4)), σ4)))))) := (xm_it_eq [42] 22).trans rfl
set_option maxHeartbeats 8000000 in
set_option maxRecDepth 20000 in
theorem X_Mod_alikeOf_42_e (d : Nat) (x2 : Int32) (x3 : Int32) (x4 : Int32) (x5 : Int32) (x6 : Int32) (σ : Sg) : X_Mod_alikeOf_42 (d + 1) x2 x3 x4 x5 x6 σ =
  xm_br (((1 : Int32) <<< ((σ.1 39 45) &&& 31)) ≤ x6)
    (xm_cI (X_Mod_millionths d x5.toInt64 x4.toInt64 σ) (fun r2 σ1 => some (some (.int r2), σ1)))
    (xm_cI (X_Mod_bitsOf d x6 σ) (fun r4 σ3 => xm_cI (X_Mod_bitsOf d x2 σ3) (fun r6 σ5 => xm_br (r4 = r6)
      (xm_cI (X_Mod_likes d x6 σ5) (fun r8 σ7 => xm_br (r8 < x3)
        (X_Mod_alikeOf_42 (d + 1) x2 x3 (x4 + 1) (x5 + 0) (x6 + 1) σ7)
        (X_Mod_alikeOf_42 (d + 1) x2 x3 (x4 + 1) (x5 + 1) (x6 + 1) σ7)))
      (X_Mod_alikeOf_42 (d + 1) x2 x3 x4 x5 (x6 + 1) σ5)))) := (xm_it_eq [42] 25).trans rfl
noncomputable def X_Mod_alike (d : Nat) (x1 : Int32) (σ : Sg) : Oz := xm_rn (xm_call d) 1 kc_Mod_alike 0 [.ref 39, .int x1] [] σ
set_option maxHeartbeats 8000000 in
set_option maxRecDepth 20000 in
theorem X_Mod_alike_e (d : Nat) (x1 : Int32) (σ : Sg) : X_Mod_alike (d + 1) x1 σ =
  xm_cI (X_Mod_isTwo d x1 σ) (fun r2 σ1 => xm_br (r2 = 0)
    (some (some (.int (-2)), σ1))
    (xm_cI (X_Mod_alikeOf d x1 σ1) (fun r4 σ3 => some (some (.int r4), σ3)))) := (xm_it_eq [] 9).trans rfl
noncomputable def X_Mod_forgot (d : Nat) (x1 : Int32) (x2 : Int32) (σ : Sg) : Oz := xm_rn (xm_call d) 2 kc_Mod_forgot 0 [.ref 39, .int x1, .int x2, .null, .null, .null, .null, .null, .null, .null, .null, .null, .null, .null] [] σ
noncomputable def X_Mod_forgot_134 (d : Nat) (x1 : Int32) (x2 : Int32) (x3 : Int64) (x5 : Int64) (x7 : Int64) (x9 : Int64) (x11 : Int64) (x13 : Int32) (σ : Sg) : Oz := xm_rn (xm_call d) 2 kc_Mod_forgot 134 [.null, .int x1, .int x2, .long x3, .null, .long x5, .null, .long x7, .null, .long x9, .null, .long x11, .null, .int x13] [] σ
set_option maxHeartbeats 8000000 in
set_option maxRecDepth 20000 in
theorem X_Mod_forgot_e (d : Nat) (x1 : Int32) (x2 : Int32) (σ : Sg) : X_Mod_forgot (d + 1) x1 x2 σ =
  xm_cI (X_Mod_in d x1.toInt64 (-1) 6 σ) (fun r2 σ1 => xm_br (r2 = 0)
    (xm_cL (X_Mod_no d (-2) σ1) (fun r4 σ3 => some (some (.long r4), σ3)))
    (xm_cI (X_Mod_isTwo d x2 σ1) (fun r6 σ5 => xm_br (r6 = 0)
      (xm_cL (X_Mod_no d (-2) σ5) (fun r18 σ17 => some (some (.long r18), σ17)))
      (xm_cV (X_Mod_findCounts d σ5) (fun σ7 => xm_cV (X_Mod_findBrought d σ7) (fun σ8 => xm_br ((σ8.1 39 39) = 0)
        (xm_cL (X_Mod_no d (-3) σ8) (fun r10 σ9 => some (some (.long r10), σ9)))
        (xm_br ((σ8.1 39 40) = 0)
          (xm_cL (X_Mod_no d (-3) σ8) (fun r16 σ15 => some (some (.long r16), σ15)))
          (xm_br (x1 = (-1))
            (xm_br ((lg_cmp ((((σ8.1 39 41).toInt64) * ((σ8.1 39 40).toInt64)) + (((σ8.1 39 42).toInt64) * ((σ8.1 39 39).toInt64))) 0) = 0)
              (xm_cL (X_Mod_no d (-3) σ8) (fun r14 σ13 => some (some (.long r14), σ13)))
              (xm_cL (X_Mod_part d (((σ8.1 39 41).toInt64) * ((σ8.1 39 40).toInt64)) ((((σ8.1 39 41).toInt64) * ((σ8.1 39 40).toInt64)) + (((σ8.1 39 42).toInt64) * ((σ8.1 39 39).toInt64))) x2 σ8) (fun r12 σ11 => some (some (.long r12), σ11))))
            (X_Mod_forgot_134 (d + 1) x1 x2 (((σ8.1 39 41).toInt64) * ((σ8.1 39 40).toInt64)) (((σ8.1 39 42).toInt64) * ((σ8.1 39 39).toInt64)) 1 0 (((σ8.1 39 39).toInt64) * ((σ8.1 39 40).toInt64)) 0 σ8))))))))) := (xm_it_eq [134] 53).trans rfl
set_option maxHeartbeats 8000000 in
set_option maxRecDepth 20000 in
theorem X_Mod_forgot_134_e (d : Nat) (x1 : Int32) (x2 : Int32) (x3 : Int64) (x5 : Int64) (x7 : Int64) (x9 : Int64) (x11 : Int64) (x13 : Int32) (σ : Sg) : X_Mod_forgot_134 (d + 1) x1 x2 x3 x5 x7 x9 x11 x13 σ =
  xm_br (x1 ≤ x13)
    (xm_cL (X_Mod_part d x9 x7 x2 σ) (fun r2 σ1 => some (some (.long r2), σ1)))
    (X_Mod_forgot_134 (d + 1) x1 x2 x3 x5 (x7 * x11) (((x7 - x9) * x3) + (x9 * (x11 - x5))) x11 (x13 + 1) σ) := (xm_it_eq [134] 22).trans rfl
noncomputable def X_Mod_wave (d : Nat) (x1 : Int32) (σ : Sg) : Oz := xm_rn (xm_call d) 1 kc_Mod_wave 0 [.ref 39, .int x1, .null, .null] [] σ
noncomputable def X_Mod_wave_23 (d : Nat) (x1 : Int32) (x2 : Int32) (x3 : Int32) (σ : Sg) : Oz := xm_rn (xm_call d) 1 kc_Mod_wave 23 [.ref 39, .int x1, .int x2, .int x3] [] σ
set_option maxHeartbeats 8000000 in
set_option maxRecDepth 20000 in
theorem X_Mod_wave_e (d : Nat) (x1 : Int32) (σ : Sg) : X_Mod_wave (d + 1) x1 σ =
  xm_cI (X_Mod_in d x1.toInt64 0 23 σ) (fun r2 σ1 => xm_br (r2 = 0)
    (some (some (.int (-2)), σ1))
    (xm_cV (X_Mod_findCounts d σ1) (fun σ3 => X_Mod_wave_23 (d + 1) x1 0 0 σ3))) := (xm_it_eq [23] 13).trans rfl
set_option maxHeartbeats 8000000 in
set_option maxRecDepth 20000 in
theorem X_Mod_wave_23_e (d : Nat) (x1 : Int32) (x2 : Int32) (x3 : Int32) (σ : Sg) : X_Mod_wave_23 d x1 x2 x3 σ =
  xm_br ((σ.1 39 26) ≤ x3)
    (some (some (.int x2), σ))
    (xm_ix x3 24 (fun j1 => xm_br ((σ.1 64 j1) = 0)
      (X_Mod_wave_23 d x1 (x2 + 0) (x3 + 1) σ)
      (xm_ix x3 24 (fun j2 => xm_br ((σ.1 62 j2) = x1)
        (X_Mod_wave_23 d x1 (x2 + 1) (x3 + 1) σ)
        (X_Mod_wave_23 d x1 (x2 + 0) (x3 + 1) σ))))) := (xm_it_eq [23] 23).trans rfl
noncomputable def X_Mod_type (d : Nat) (x1 : Int32) (x2 : Int32) (σ : Sg) : Oz := xm_rn (xm_call d) 1 kc_Mod_type 0 [.ref 39, .int x1, .int x2] [] σ
set_option maxHeartbeats 8000000 in
set_option maxRecDepth 20000 in
theorem X_Mod_type_e (d : Nat) (x1 : Int32) (x2 : Int32) (σ : Sg) : X_Mod_type (d + 1) x1 x2 σ =
  xm_cI (X_Mod_isRecord d x1 σ) (fun r2 σ1 => xm_br (r2 = 0)
    (some (some (.int (-2)), σ1))
    (xm_cI (X_Mod_in d x2.toInt64 0 255 σ1) (fun r4 σ3 => xm_br (r4 = 0)
      (some (some (.int (-2)), σ3))
      (xm_br (x2 = 63)
        (xm_ix x1 24 (fun j5 => xm_br ((σ3.1 68 j5) = 8)
          (some (some (.int (-4)), σ3))
          (xm_ix x1 24 (fun j6 => xm_ix ((8 * x1) + (σ3.1 68 j6)) 192 (fun j7 => xm_ix x1 24 (fun j8 => xm_ix x1 24 (fun j9 => xm_ix x1 24 (fun j10 => some (some (.int (((xm_sI (xm_sI σ3 67 j7 x2) 68 j9 ((σ3.1 68 j8) + 1))).1 68 j10)), (xm_sI (xm_sI σ3 67 j7 x2) 68 j9 ((σ3.1 68 j8) + 1)))))))))))
        (xm_cI (X_Mod_in d x2.toInt64 97 122 σ3) (fun r12 σ11 => xm_br (r12 = 0)
          (some (some (.int (-3)), σ11))
          (xm_ix x1 24 (fun j13 => xm_br ((σ11.1 68 j13) = 8)
            (some (some (.int (-4)), σ11))
            (xm_ix x1 24 (fun j14 => xm_ix ((8 * x1) + (σ11.1 68 j14)) 192 (fun j15 => xm_ix x1 24 (fun j16 => xm_ix x1 24 (fun j17 => xm_ix x1 24 (fun j18 => some (some (.int (((xm_sI (xm_sI σ11 67 j15 x2) 68 j17 ((σ11.1 68 j16) + 1))).1 68 j18)), (xm_sI (xm_sI σ11 67 j15 x2) 68 j17 ((σ11.1 68 j16) + 1))))))))))))))))) := (xm_it_eq [] 51).trans rfl
noncomputable def X_Mod_wipe (d : Nat) (x1 : Int32) (σ : Sg) : Oz := xm_rn (xm_call d) 1 kc_Mod_wipe 0 [.ref 39, .int x1, .null] [] σ
set_option maxHeartbeats 8000000 in
set_option maxRecDepth 20000 in
theorem X_Mod_wipe_e (d : Nat) (x1 : Int32) (σ : Sg) : X_Mod_wipe (d + 1) x1 σ =
  xm_cI (X_Mod_isRecord d x1 σ) (fun r2 σ1 => xm_br (r2 = 0)
    (some (some (.int (-2)), σ1))
    (xm_ix x1 24 (fun j3 => xm_ix x1 24 (fun j4 => some (some (.int (σ1.1 68 j3)), (xm_sI σ1 68 j4 0)))))) := (xm_it_eq [] 17).trans rfl
noncomputable def X_Mod_clashes (d : Nat) (x1 : Int32) (x2 : Int32) (σ : Sg) : Oz := xm_rn (xm_call d) 3 kc_Mod_clashes 0 [.ref 39, .int x1, .int x2, .null, .null, .null, .null] [] σ
noncomputable def X_Mod_clashes_5 (d : Nat) (x1 : Int32) (x2 : Int32) (x3 : Int32) (x4 : Int32) (σ : Sg) : Oz := xm_rn (xm_call d) 3 kc_Mod_clashes 5 [.ref 39, .int x1, .int x2, .int x3, .int x4, .null, .null] [] σ
set_option maxHeartbeats 8000000 in
set_option maxRecDepth 20000 in
theorem X_Mod_clashes_e (d : Nat) (x1 : Int32) (x2 : Int32) (σ : Sg) : X_Mod_clashes d x1 x2 σ =
  X_Mod_clashes_5 d x1 x2 0 0 σ := (xm_it_eq [5] 5).trans rfl
set_option maxHeartbeats 8000000 in
set_option maxRecDepth 20000 in
theorem X_Mod_clashes_5_e (d : Nat) (x1 : Int32) (x2 : Int32) (x3 : Int32) (x4 : Int32) (σ : Sg) : X_Mod_clashes_5 d x1 x2 x3 x4 σ =
  xm_ix x1 24 (fun j1 => xm_br ((σ.1 68 j1) ≤ x4)
    (xm_bo x3 (some (some (.int x3), σ)))
    (xm_ix x2 24 (fun j2 => xm_br ((σ.1 68 j2) ≤ x4)
      (xm_bo x3 (some (some (.int x3), σ)))
      (xm_ix ((8 * x1) + x4) 192 (fun j3 => xm_ix ((8 * x2) + x4) 192 (fun j4 => xm_br (x3 = 0)
        (xm_br ((σ.1 67 j3) = 63)
          (X_Mod_clashes_5 d x1 x2 0 (x4 + 1) σ)
          (xm_br ((σ.1 67 j4) = 63)
            (X_Mod_clashes_5 d x1 x2 0 (x4 + 1) σ)
            (xm_br ((σ.1 67 j3) = (σ.1 67 j4))
              (X_Mod_clashes_5 d x1 x2 0 (x4 + 1) σ)
              (X_Mod_clashes_5 d x1 x2 1 (x4 + 1) σ))))
        (X_Mod_clashes_5 d x1 x2 1 (x4 + 1) σ))))))) := (xm_it_eq [5] 47).trans rfl
noncomputable def X_Mod_clash (d : Nat) (x1 : Int32) (x2 : Int32) (σ : Sg) : Oz := xm_rn (xm_call d) 1 kc_Mod_clash 0 [.ref 39, .int x1, .int x2] [] σ
set_option maxHeartbeats 8000000 in
set_option maxRecDepth 20000 in
theorem X_Mod_clash_e (d : Nat) (x1 : Int32) (x2 : Int32) (σ : Sg) : X_Mod_clash (d + 1) x1 x2 σ =
  xm_cI (X_Mod_isRecord d x1 σ) (fun r2 σ1 => xm_br (r2 = 0)
    (some (some (.int (-2)), σ1))
    (xm_cI (X_Mod_isRecord d x2 σ1) (fun r4 σ3 => xm_br (r4 = 0)
      (some (some (.int (-2)), σ3))
      (xm_cI (X_Mod_clashes d x1 x2 σ3) (fun r6 σ5 => xm_br (r6 = 0)
        (some (some (.int 0), σ5))
        (some (some (.int 1), σ5))))))) := (xm_it_eq [] 17).trans rfl
noncomputable def X_Mod_canBe (d : Nat) (x1 : Int32) (x2 : Int32) (σ : Sg) : Oz := xm_rn (xm_call d) 3 kc_Mod_canBe 0 [.ref 39, .int x1, .int x2, .null, .null] [] σ
noncomputable def X_Mod_canBe_5 (d : Nat) (x1 : Int32) (x2 : Int32) (x3 : Int32) (x4 : Int32) (σ : Sg) : Oz := xm_rn (xm_call d) 3 kc_Mod_canBe 5 [.ref 39, .int x1, .int x2, .int x3, .int x4] [] σ
set_option maxHeartbeats 8000000 in
set_option maxRecDepth 20000 in
theorem X_Mod_canBe_e (d : Nat) (x1 : Int32) (x2 : Int32) (σ : Sg) : X_Mod_canBe d x1 x2 σ =
  X_Mod_canBe_5 d x1 x2 1 0 σ := (xm_it_eq [5] 5).trans rfl
set_option maxHeartbeats 8000000 in
set_option maxRecDepth 20000 in
theorem X_Mod_canBe_5_e (d : Nat) (x1 : Int32) (x2 : Int32) (x3 : Int32) (x4 : Int32) (σ : Sg) : X_Mod_canBe_5 (d + 1) x1 x2 x3 x4 σ =
  xm_br (x1 ≤ x4)
    (xm_bo x3 (some (some (.int x3), σ)))
    (xm_br (x3 = 0)
      (X_Mod_canBe_5 (d + 1) x1 x2 0 (x4 + 1) σ)
      (xm_ix x4 12 (fun j1 => xm_br ((σ.1 69 j1) = x2)
        (xm_ix x4 24 (fun j2 => xm_ix x1 24 (fun j3 => xm_cI (X_Mod_clashes d (σ.1 65 j2) (σ.1 65 j3) σ) (fun r5 σ4 => xm_br (r5 = 0)
          (X_Mod_canBe_5 (d + 1) x1 x2 1 (x4 + 1) σ4)
          (X_Mod_canBe_5 (d + 1) x1 x2 0 (x4 + 1) σ4)))))
        (X_Mod_canBe_5 (d + 1) x1 x2 1 (x4 + 1) σ)))) := (xm_it_eq [5] 28).trans rfl
noncomputable def X_Mod_isEnough (d : Nat) (x1 : Int32) (σ : Sg) : Oz := xm_rn (xm_call d) 3 kc_Mod_isEnough 0 [.ref 39, .int x1, .null, .null] [] σ
noncomputable def X_Mod_isEnough_4 (d : Nat) (x1 : Int32) (x2 : Int32) (x3 : Int32) (σ : Sg) : Oz := xm_rn (xm_call d) 3 kc_Mod_isEnough 4 [.ref 39, .int x1, .int x2, .int x3] [] σ
noncomputable def X_Mod_isEnough_16 (d : Nat) (x1 : Int32) (x2 : Int32) (x3 : Int32) (σ : Sg) : Oz := xm_rn (xm_call d) 3 kc_Mod_isEnough 16 [.ref 39, .int x1, .int x2, .int x3] [] σ
noncomputable def X_Mod_isEnough_36 (d : Nat) (x1 : Int32) (x2 : Int32) (x3 : Int32) (σ : Sg) : Oz := xm_rn (xm_call d) 3 kc_Mod_isEnough 36 [.ref 39, .int x1, .int x2, .int x3] [] σ
noncomputable def X_Mod_isEnough_59 (d : Nat) (x1 : Int32) (x2 : Int32) (σ : Sg) : Oz := xm_rn (xm_call d) 3 kc_Mod_isEnough 59 [.ref 39, .int x1, .int x2, .null] [] σ
set_option maxHeartbeats 8000000 in
set_option maxRecDepth 20000 in
theorem X_Mod_isEnough_e (d : Nat) (x1 : Int32) (σ : Sg) : X_Mod_isEnough d x1 σ =
  X_Mod_isEnough_4 d x1 0 0 σ := (xm_it_eq [4, 16, 36, 59] 5).trans rfl
set_option maxHeartbeats 8000000 in
set_option maxRecDepth 20000 in
theorem X_Mod_isEnough_4_e (d : Nat) (x1 : Int32) (x2 : Int32) (x3 : Int32) (σ : Sg) : X_Mod_isEnough_4 d x1 x2 x3 σ =
  xm_br (x2 < 0)
    (xm_br (x2 = (σ.1 39 45))
      (some (some (.int 1), σ))
      (some (some (.int 0), σ)))
    (xm_br ((σ.1 39 45) ≤ x2)
      (xm_br (x2 = (σ.1 39 45))
        (some (some (.int 1), σ))
        (some (some (.int 0), σ)))
      (X_Mod_isEnough_16 d x1 x2 x3 σ)) := (xm_it_eq [4, 16, 36, 59] 14).trans rfl
set_option maxHeartbeats 8000000 in
set_option maxRecDepth 20000 in
theorem X_Mod_isEnough_16_e (d : Nat) (x1 : Int32) (x2 : Int32) (x3 : Int32) (σ : Sg) : X_Mod_isEnough_16 (d + 1) x1 x2 x3 σ =
  xm_br (x1 ≤ x3)
    (X_Mod_isEnough_36 (d + 1) x1 x2 x3 σ)
    (xm_cI (X_Mod_canBe d x2 x3 σ) (fun r2 σ1 => xm_br (r2 = 0)
      (X_Mod_isEnough_16 (d + 1) x1 x2 (x3 + 1) σ1)
      (X_Mod_isEnough_36 (d + 1) x1 x2 x3 σ1))) := (xm_it_eq [4, 16, 36, 59] 11).trans rfl
set_option maxHeartbeats 8000000 in
set_option maxRecDepth 20000 in
theorem X_Mod_isEnough_36_e (d : Nat) (x1 : Int32) (x2 : Int32) (x3 : Int32) (σ : Sg) : X_Mod_isEnough_36 d x1 x2 x3 σ =
  xm_br (x1 ≤ x3)
    (X_Mod_isEnough_59 d x1 (x2 + (-1)) σ)
    (xm_ix x2 12 (fun j1 => X_Mod_isEnough_4 d x1 (x2 + 1) 0 (xm_sI σ 69 j1 x3))) := (xm_it_eq [4, 16, 36, 59] 13).trans rfl
set_option maxHeartbeats 8000000 in
set_option maxRecDepth 20000 in
theorem X_Mod_isEnough_59_e (d : Nat) (x1 : Int32) (x2 : Int32) (σ : Sg) : X_Mod_isEnough_59 d x1 x2 σ =
  xm_br (x2 < 0)
    (X_Mod_isEnough_4 d x1 x2 0 σ)
    (xm_ix x2 12 (fun j1 => X_Mod_isEnough_4 d x1 x2 ((σ.1 69 j1) + 1) σ)) := (xm_it_eq [4, 16, 36, 59] 12).trans rfl
noncomputable def X_Mod_leastNow (d : Nat)  (σ : Sg) : Oz := xm_rn (xm_call d) 1 kc_Mod_leastNow 0 [.ref 39, .null] [] σ
noncomputable def X_Mod_leastNow_18 (d : Nat) (x1 : Int32) (σ : Sg) : Oz := xm_rn (xm_call d) 1 kc_Mod_leastNow 18 [.ref 39, .int x1] [] σ
set_option maxHeartbeats 8000000 in
set_option maxRecDepth 20000 in
theorem X_Mod_leastNow_e (d : Nat)  (σ : Sg) : X_Mod_leastNow (d + 1) σ =
  xm_cV (X_Mod_findWho d σ) (fun σ1 => xm_br ((σ1.1 39 45) ≤ 12)
    (X_Mod_leastNow_18 (d + 1) 0 σ1)
    (some (some (.int (-4)), σ1))) := (xm_it_eq [18] 9).trans rfl
set_option maxHeartbeats 8000000 in
set_option maxRecDepth 20000 in
theorem X_Mod_leastNow_18_e (d : Nat) (x1 : Int32) (σ : Sg) : X_Mod_leastNow_18 (d + 1) x1 σ =
  xm_cI (X_Mod_isEnough d x1 σ) (fun r2 σ1 => xm_br (r2 = 0)
    (X_Mod_leastNow_18 (d + 1) (x1 + 1) σ1)
    (some (some (.int x1), σ1))) := (xm_it_eq [18] 7).trans rfl
noncomputable def X_Mod_least (d : Nat)  (σ : Sg) : Oz := xm_rn (xm_call d) 1 kc_Mod_least 0 [.ref 39] [] σ
set_option maxHeartbeats 8000000 in
set_option maxRecDepth 20000 in
theorem X_Mod_least_e (d : Nat)  (σ : Sg) : X_Mod_least (d + 1) σ =
  xm_cI (X_Mod_leastNow d σ) (fun r2 σ1 => some (some (.int r2), σ1)) := (xm_it_eq [] 4).trans rfl
noncomputable def X_Mod_ones (d : Nat) (x1 : Int32) (σ : Sg) : Oz := xm_rn (xm_call d) 1 kc_Mod_ones 0 [.ref 39, .int x1] [] σ
set_option maxHeartbeats 8000000 in
set_option maxRecDepth 20000 in
theorem X_Mod_ones_e (d : Nat) (x1 : Int32) (σ : Sg) : X_Mod_ones (d + 1) x1 σ =
  xm_cI (X_Mod_isRecord d x1 σ) (fun r2 σ1 => xm_br (r2 = 0)
    (some (some (.int (-2)), σ1))
    (xm_cI (X_Mod_leastNow d σ1) (fun r4 σ3 => xm_br (r4 = (-4))
      (some (some (.int (-4)), σ3))
      (xm_ix x1 24 (fun j5 => xm_br ((σ3.1 64 j5) = 0)
        (some (some (.int (-1)), σ3))
        (xm_ix x1 24 (fun j6 => xm_ix (σ3.1 66 j6) 12 (fun j7 => some (some (.int (σ3.1 69 j7)), σ3))))))))) := (xm_it_eq [] 23).trans rfl
noncomputable def X_Mod_reach (d : Nat) (x1 : Int32) (σ : Sg) : Oz := xm_rn (xm_call d) 1 kc_Mod_reach 0 [.ref 39, .int x1, .null, .null, .null] [] σ
noncomputable def X_Mod_reach_19 (d : Nat) (x1 : Int32) (x2 : Int32) (x3 : Int32) (σ : Sg) : Oz := xm_rn (xm_call d) 1 kc_Mod_reach 19 [.ref 39, .int x1, .int x2, .int x3, .null] [] σ
set_option maxHeartbeats 8000000 in
set_option maxRecDepth 20000 in
theorem X_Mod_reach_e (d : Nat) (x1 : Int32) (σ : Sg) : X_Mod_reach (d + 1) x1 σ =
  xm_cI (X_Mod_in d x1.toInt64 0 8 σ) (fun r2 σ1 => xm_br (r2 = 0)
    (some (some (.int (-2)), σ1))
    (X_Mod_reach_19 (d + 1) x1 (-1) 1 σ1)) := (xm_it_eq [19] 11).trans rfl
set_option maxHeartbeats 8000000 in
set_option maxRecDepth 20000 in
theorem X_Mod_reach_19_e (d : Nat) (x1 : Int32) (x2 : Int32) (x3 : Int32) (σ : Sg) : X_Mod_reach_19 (d + 1) x1 x2 x3 σ =
  xm_cI (X_Mod_everybody d σ) (fun r2 σ1 => xm_br (r2 < x3)
    (some (some (.int x2), σ1))
    (xm_br (x2 = (-1))
      (xm_cI (X_Mod_everybody d σ1) (fun r4 σ3 => xm_cI (X_Mod_around d x3 x1 r4 σ3) (fun r6 σ5 => xm_cI (X_Mod_everybody d σ5) (fun r8 σ7 => xm_br (r6 = r8)
        (X_Mod_reach_19 (d + 1) x1 x3 (x3 + 1) σ7)
        (X_Mod_reach_19 (d + 1) x1 x2 (x3 + 1) σ7)))))
      (xm_cI (X_Mod_bitsOf d x3 σ1) (fun r10 σ9 => xm_cI (X_Mod_bitsOf d x2 σ9) (fun r12 σ11 => xm_br (r12 ≤ r10)
        (X_Mod_reach_19 (d + 1) x1 x2 (x3 + 1) σ11)
        (xm_cI (X_Mod_everybody d σ11) (fun r14 σ13 => xm_cI (X_Mod_around d x3 x1 r14 σ13) (fun r16 σ15 => xm_cI (X_Mod_everybody d σ15) (fun r18 σ17 => xm_br (r16 = r18)
          (X_Mod_reach_19 (d + 1) x1 x3 (x3 + 1) σ17)
          (X_Mod_reach_19 (d + 1) x1 x2 (x3 + 1) σ17)))))))))) := (xm_it_eq [19] 32).trans rfl
noncomputable def X_Mod_partsOf (d : Nat) (x1 : Int32) (σ : Sg) : Oz := xm_rn (xm_call d) 1 kc_Mod_partsOf 0 [.ref 39, .int x1, .null, .null] [] σ
noncomputable def X_Mod_partsOf_4 (d : Nat) (x1 : Int32) (x2 : Int32) (x3 : Int32) (σ : Sg) : Oz := xm_rn (xm_call d) 1 kc_Mod_partsOf 4 [.ref 39, .int x1, .int x2, .int x3] [] σ
set_option maxHeartbeats 8000000 in
set_option maxRecDepth 20000 in
theorem X_Mod_partsOf_e (d : Nat) (x1 : Int32) (σ : Sg) : X_Mod_partsOf d x1 σ =
  X_Mod_partsOf_4 d x1 x1 0 σ := (xm_it_eq [4] 5).trans rfl
set_option maxHeartbeats 8000000 in
set_option maxRecDepth 20000 in
theorem X_Mod_partsOf_4_e (d : Nat) (x1 : Int32) (x2 : Int32) (x3 : Int32) (σ : Sg) : X_Mod_partsOf_4 (d + 1) x1 x2 x3 σ =
  xm_br (x2 = 0)
    (some (some (.int x3), σ))
    (xm_cI (X_Mod_lowest d x2 σ) (fun r2 σ1 => xm_cI (X_Mod_around d ((1 : Int32) <<< (r2 &&& 31)) 9 x1 σ1) (fun r4 σ3 => X_Mod_partsOf_4 (d + 1) x1 (x2 &&& (r4 ^^^ (-1))) (x3 + 1) σ3))) := (xm_it_eq [4] 18).trans rfl
noncomputable def X_Mod_partsNow (d : Nat) (x1 : Int32) (σ : Sg) : Oz := xm_rn (xm_call d) 1 kc_Mod_partsNow 0 [.ref 39, .int x1, .null, .null, .null] [] σ
noncomputable def X_Mod_partsNow_20 (d : Nat) (x2 : Int32) (x3 : Int32) (x4 : Int32) (σ : Sg) : Oz := xm_rn (xm_call d) 1 kc_Mod_partsNow 20 [.ref 39, .null, .int x2, .int x3, .int x4] [] σ
set_option maxHeartbeats 8000000 in
set_option maxRecDepth 20000 in
theorem X_Mod_partsNow_e (d : Nat) (x1 : Int32) (σ : Sg) : X_Mod_partsNow (d + 1) x1 σ =
  xm_cI (X_Mod_everybody d σ) (fun r2 σ1 => xm_cI (X_Mod_partsOf d r2 σ1) (fun r4 σ3 => xm_br (x1 = 0)
    (some (some (.int r4), σ3))
    (X_Mod_partsNow_20 (d + 1) r4 0 0 σ3))) := (xm_it_eq [20] 12).trans rfl
set_option maxHeartbeats 8000000 in
set_option maxRecDepth 20000 in
theorem X_Mod_partsNow_20_e (d : Nat) (x2 : Int32) (x3 : Int32) (x4 : Int32) (σ : Sg) : X_Mod_partsNow_20 (d + 1) x2 x3 x4 σ =
  xm_br ((σ.1 39 5) ≤ x4)
    (some (some (.int x3), σ))
    (xm_cI (X_Mod_everybody d σ) (fun r2 σ1 => xm_cI (X_Mod_partsOf d (r2 &&& (((1 : Int32) <<< (x4 &&& 31)) ^^^ (-1))) σ1) (fun r4 σ3 => xm_br (r4 ≤ x2)
      (X_Mod_partsNow_20 (d + 1) x2 (x3 ||| 0) (x4 + 1) σ3)
      (X_Mod_partsNow_20 (d + 1) x2 (x3 ||| ((1 : Int32) <<< (x4 &&& 31))) (x4 + 1) σ3)))) := (xm_it_eq [20] 26).trans rfl
noncomputable def X_Mod_parts (d : Nat) (x1 : Int32) (σ : Sg) : Oz := xm_rn (xm_call d) 1 kc_Mod_parts 0 [.ref 39, .int x1] [] σ
set_option maxHeartbeats 8000000 in
set_option maxRecDepth 20000 in
theorem X_Mod_parts_e (d : Nat) (x1 : Int32) (σ : Sg) : X_Mod_parts (d + 1) x1 σ =
  xm_cI (X_Mod_isTwo d x1 σ) (fun r2 σ1 => xm_br (r2 = 0)
    (some (some (.int (-2)), σ1))
    (xm_cI (X_Mod_partsNow d x1 σ1) (fun r4 σ3 => some (some (.int r4), σ3)))) := (xm_it_eq [] 9).trans rfl
noncomputable def X_Mod_narrowOf (d : Nat) (x1 : Int32) (σ : Sg) : Oz := xm_rn (xm_call d) 2 kc_Mod_narrowOf 0 [.ref 39, .int x1, .null, .null, .null, .null, .null, .null, .null, .null] [] σ
noncomputable def X_Mod_narrowOf_16 (d : Nat) (x1 : Int32) (x2 : Int32) (x3 : Int32) (x4 : Int32) (x5 : Int32) (x6 : Int32) (σ : Sg) : Oz := xm_rn (xm_call d) 2 kc_Mod_narrowOf 16 [.ref 39, .int x1, .int x2, .int x3, .int x4, .int x5, .int x6, .null, .null, .null] [] σ
noncomputable def X_Mod_narrowOf_34 (d : Nat) (x1 : Int32) (x2 : Int32) (x3 : Int32) (x4 : Int32) (x5 : Int32) (x6 : Int32) (x7 : Int32) (x8 : Int32) (x9 : Int32) (σ : Sg) : Oz := xm_rn (xm_call d) 2 kc_Mod_narrowOf 34 [.ref 39, .int x1, .int x2, .int x3, .int x4, .int x5, .int x6, .int x7, .int x8, .int x9] [] σ
set_option maxHeartbeats 8000000 in
set_option maxRecDepth 20000 in
theorem X_Mod_narrowOf_e (d : Nat) (x1 : Int32) (σ : Sg) : X_Mod_narrowOf (d + 1) x1 σ =
  xm_cI (X_Mod_degrees d σ) (fun r2 σ1 => X_Mod_narrowOf_16 (d + 1) x1 (-1) 0 1 r2 1 σ1) := (xm_it_eq [16, 34] 12).trans rfl
set_option maxHeartbeats 8000000 in
set_option maxRecDepth 20000 in
theorem X_Mod_narrowOf_16_e (d : Nat) (x1 : Int32) (x2 : Int32) (x3 : Int32) (x4 : Int32) (x5 : Int32) (x6 : Int32) (σ : Sg) : X_Mod_narrowOf_16 (d + 1) x1 x2 x3 x4 x5 x6 σ =
  xm_cI (X_Mod_everybody d σ) (fun r2 σ1 => xm_br (r2 < x6)
    (xm_br (x1 = 2)
      (some (some (.long x2.toInt64), σ1))
      (xm_br (x2 = (-1))
        (xm_cL (X_Mod_no d (-3) σ1) (fun r6 σ5 => some (some (.long r6), σ5)))
        (xm_cL (X_Mod_part d x3.toInt64 x4.toInt64 x1 σ1) (fun r4 σ3 => some (some (.long r4), σ3)))))
    (X_Mod_narrowOf_34 (d + 1) x1 x2 x3 x4 x5 x6 0 0 0 σ1)) := (xm_it_eq [16, 34] 18).trans rfl
set_option maxHeartbeats 8000000 in
set_option maxRecDepth 20000 in
theorem X_Mod_narrowOf_34_e (d : Nat) (x1 : Int32) (x2 : Int32) (x3 : Int32) (x4 : Int32) (x5 : Int32) (x6 : Int32) (x7 : Int32) (x8 : Int32) (x9 : Int32) (σ : Sg) : X_Mod_narrowOf_34 (d + 1) x1 x2 x3 x4 x5 x6 x7 x8 x9 σ =
  xm_br ((σ.1 39 5) ≤ x9)
    (xm_br (x7 ≤ 0)
      (X_Mod_narrowOf_16 (d + 1) x1 x2 x3 x4 x5 (x6 + 1) σ)
      (xm_br (x5 < (2 * x7))
        (X_Mod_narrowOf_16 (d + 1) x1 x2 x3 x4 x5 (x6 + 1) σ)
        (xm_br (x2 = (-1))
          (X_Mod_narrowOf_16 (d + 1) x1 x6 x8 x7 x5 (x6 + 1) σ)
          (xm_br ((x3 * x7) ≤ (x8 * x4))
            (X_Mod_narrowOf_16 (d + 1) x1 x2 x3 x4 x5 (x6 + 1) σ)
            (X_Mod_narrowOf_16 (d + 1) x1 x6 x8 x7 x5 (x6 + 1) σ)))))
    (xm_br (((x6 >>> (x9 &&& 31)) &&& 1) = 1)
      (xm_cI (X_Mod_degree d x9 σ) (fun r2 σ1 => xm_ix x9 9 (fun j3 => xm_cI (X_Mod_bitsOf d ((σ1.1 44 j3) &&& (x6 ^^^ (-1))) σ1) (fun r5 σ4 => X_Mod_narrowOf_34 (d + 1) x1 x2 x3 x4 x5 x6 (x7 + r2) (x8 + r5) (x9 + 1) σ4))))
      (X_Mod_narrowOf_34 (d + 1) x1 x2 x3 x4 x5 x6 x7 x8 (x9 + 1) σ)) := (xm_it_eq [16, 34] 32).trans rfl
noncomputable def X_Mod_narrow (d : Nat) (x1 : Int32) (σ : Sg) : Oz := xm_rn (xm_call d) 2 kc_Mod_narrow 0 [.ref 39, .int x1] [] σ
set_option maxHeartbeats 8000000 in
set_option maxRecDepth 20000 in
theorem X_Mod_narrow_e (d : Nat) (x1 : Int32) (σ : Sg) : X_Mod_narrow (d + 1) x1 σ =
  xm_cI (X_Mod_in d x1.toInt64 0 2 σ) (fun r2 σ1 => xm_br (r2 = 0)
    (xm_cL (X_Mod_no d (-2) σ1) (fun r4 σ3 => some (some (.long r4), σ3)))
    (xm_cL (X_Mod_narrowOf d x1 σ1) (fun r6 σ5 => some (some (.long r6), σ5)))) := (xm_it_eq [] 12).trans rfl
noncomputable def X_Mod_write (d : Nat) (x1 : Int32) (x2 : Int32) (σ : Sg) : Oz := xm_rn (xm_call d) 1 kc_Mod_write 0 [.ref 39, .int x1, .int x2, .null, .null] [] σ
noncomputable def X_Mod_write_63 (d : Nat) (x1 : Int32) (x2 : Int32) (x3 : Int32) (x4 : Int32) (σ : Sg) : Oz := xm_rn (xm_call d) 1 kc_Mod_write 63 [.ref 39, .int x1, .int x2, .int x3, .int x4] [] σ
set_option maxHeartbeats 8000000 in
set_option maxRecDepth 20000 in
theorem X_Mod_write_e (d : Nat) (x1 : Int32) (x2 : Int32) (σ : Sg) : X_Mod_write (d + 1) x1 x2 σ =
  xm_cI (X_Mod_isPerson d x1 σ) (fun r2 σ1 => xm_br (r2 = 0)
    (some (some (.int (-2)), σ1))
    (xm_cI (X_Mod_isSheet d x2 σ1) (fun r4 σ3 => xm_br (r4 = 0)
      (some (some (.int (-2)), σ3))
      (xm_ix x2 4 (fun j5 => xm_br (0 ≤ (σ3.1 40 j5))
        (xm_ix x2 4 (fun j6 => xm_br ((σ3.1 39 5) ≤ (σ3.1 41 j6))
          (X_Mod_write_63 (d + 1) x1 x2 (σ3.1 39 5) 0 σ3)
          (xm_ix x2 4 (fun j7 => X_Mod_write_63 (d + 1) x1 x2 (σ3.1 41 j7) 0 σ3))))
        (xm_cI (X_Mod_met d 1 σ3) (fun r9 σ8 => some (some (.int r9), σ8)))))))) := (xm_it_eq [63] 28).trans rfl
set_option maxHeartbeats 8000000 in
set_option maxRecDepth 20000 in
theorem X_Mod_write_63_e (d : Nat) (x1 : Int32) (x2 : Int32) (x3 : Int32) (x4 : Int32) (σ : Sg) : X_Mod_write_63 d x1 x2 x3 x4 σ =
  xm_br (x3 ≤ x4)
    (some (some (.int x3), σ))
    (xm_ix x1 9 (fun j1 => xm_ix ((60 * x2) + x4) 240 (fun j2 => X_Mod_write_63 d x1 x2 x3 (x4 + 1) (xm_sI σ 42 j2 (((σ.1 44 j1) >>> (x4 &&& 31)) &&& 1))))) := (xm_it_eq [63] 22).trans rfl
noncomputable def X_Mod_count (d : Nat) (x1 : Int32) (σ : Sg) : Oz := xm_rn (xm_call d) 1 kc_Mod_count 0 [.ref 39, .int x1, .null, .null] [] σ
noncomputable def X_Mod_count_70 (d : Nat) (x2 : Int32) (x3 : Int32) (σ : Sg) : Oz := xm_rn (xm_call d) 1 kc_Mod_count 70 [.ref 39, .null, .int x2, .int x3] [] σ
noncomputable def X_Mod_count_137 (d : Nat) (x2 : Int32) (x3 : Int32) (σ : Sg) : Oz := xm_rn (xm_call d) 1 kc_Mod_count 137 [.ref 39, .null, .int x2, .int x3] [] σ
set_option maxHeartbeats 8000000 in
set_option maxRecDepth 20000 in
theorem X_Mod_count_e (d : Nat) (x1 : Int32) (σ : Sg) : X_Mod_count (d + 1) x1 σ =
  xm_br (x1 = 0)
    (some (some (.int (σ.1 39 5)), σ))
    (xm_br (x1 = 1)
    (xm_cI (X_Mod_degrees d σ) (fun r2 σ1 => some (some (.int (r2 / 2)), σ1)))
    (xm_br (x1 = 2)
    (X_Mod_count_70 (d + 1) 0 0 σ)
    (xm_br (x1 = 3)
    (some (some (.int (σ.1 39 26)), σ))
    (xm_br (x1 = 4)
    (xm_cV (X_Mod_findWho d σ) (fun σ3 => some (some (.int (σ3.1 39 45)), σ3)))
    (xm_br (x1 = 5)
    (xm_cV (X_Mod_findCounts d σ) (fun σ4 => xm_cI (X_Mod_trees d σ4) (fun r6 σ5 => some (some (.int r6), σ5))))
    (xm_br (x1 = 6)
    (some (some (.int (σ.1 39 8)), σ))
    (xm_br (x1 = 7)
    (some (some (.int (σ.1 39 9)), σ))
    (xm_br (x1 = 8)
    (some (some (.int (σ.1 39 4)), σ))
    (xm_br (x1 = 9)
    (X_Mod_count_137 (d + 1) 0 0 σ)
    (some (some (.int (-2)), σ))))))))))) := (xm_it_eq [70, 137] 10).trans rfl
set_option maxHeartbeats 8000000 in
set_option maxRecDepth 20000 in
theorem X_Mod_count_70_e (d : Nat) (x2 : Int32) (x3 : Int32) (σ : Sg) : X_Mod_count_70 d x2 x3 σ =
  xm_br ((σ.1 39 5) ≤ x3)
    (some (some (.int x2), σ))
    (xm_ix x3 9 (fun j1 => X_Mod_count_70 d (x2 ||| ((σ.1 45 j1) <<< (x3 &&& 31))) (x3 + 1) σ)) := (xm_it_eq [70, 137] 16).trans rfl
set_option maxHeartbeats 8000000 in
set_option maxRecDepth 20000 in
theorem X_Mod_count_137_e (d : Nat) (x2 : Int32) (x3 : Int32) (σ : Sg) : X_Mod_count_137 d x2 x3 σ =
  xm_br ((σ.1 39 26) ≤ x3)
    (some (some (.int x2), σ))
    (xm_ix x3 24 (fun j1 => X_Mod_count_137 d (x2 + (σ.1 68 j1)) (x3 + 1) σ)) := (xm_it_eq [70, 137] 14).trans rfl
noncomputable def X_Mod_digest (d : Nat)  (σ : Sg) : Oz := xm_rn (xm_call d) 2 kc_Mod_digest 0 [.ref 39, .null, .null, .null, .null] [] σ
noncomputable def X_Mod_digest_6 (d : Nat) (x1 : Int64) (x3 : Int32) (σ : Sg) : Oz := xm_rn (xm_call d) 2 kc_Mod_digest 6 [.ref 39, .long x1, .null, .int x3, .null] [] σ
noncomputable def X_Mod_digest_49 (d : Nat) (x1 : Int64) (x3 : Int32) (σ : Sg) : Oz := xm_rn (xm_call d) 2 kc_Mod_digest 49 [.ref 39, .long x1, .null, .int x3, .null] [] σ
noncomputable def X_Mod_digest_176 (d : Nat) (x1 : Int64) (x3 : Int32) (σ : Sg) : Oz := xm_rn (xm_call d) 2 kc_Mod_digest 176 [.ref 39, .long x1, .null, .int x3, .null] [] σ
noncomputable def X_Mod_digest_187 (d : Nat) (x1 : Int64) (x3 : Int32) (x4 : Int32) (σ : Sg) : Oz := xm_rn (xm_call d) 2 kc_Mod_digest 187 [.ref 39, .long x1, .null, .int x3, .int x4] [] σ
noncomputable def X_Mod_digest_223 (d : Nat) (x1 : Int64) (x3 : Int32) (σ : Sg) : Oz := xm_rn (xm_call d) 2 kc_Mod_digest 223 [.ref 39, .long x1, .null, .int x3, .null] [] σ
noncomputable def X_Mod_digest_293 (d : Nat) (x1 : Int64) (x3 : Int32) (σ : Sg) : Oz := xm_rn (xm_call d) 2 kc_Mod_digest 293 [.ref 39, .long x1, .null, .int x3, .null] [] σ
set_option maxHeartbeats 8000000 in
set_option maxRecDepth 20000 in
theorem X_Mod_digest_e (d : Nat)  (σ : Sg) : X_Mod_digest d σ =
  X_Mod_digest_6 d 17 0 σ := (xm_it_eq [6, 49, 176, 187, 223, 293] 5).trans rfl
set_option maxHeartbeats 8000000 in
set_option maxRecDepth 20000 in
theorem X_Mod_digest_6_e (d : Nat) (x1 : Int64) (x3 : Int32) (σ : Sg) : X_Mod_digest_6 (d + 1) x1 x3 σ =
  xm_br (10 ≤ x3)
    (xm_cV (X_Mod_goesThrough d 10 σ) (fun σ1 => X_Mod_digest_49 (d + 1) x1 0 σ1))
    (xm_br (x3 = 8)
      (X_Mod_digest_6 (d + 1) x1 (x3 + 1) σ)
      (xm_cI (X_Mod_count d x3 σ) (fun r3 σ2 => X_Mod_digest_6 (d + 1) ((31 * x1) + r3.toInt64) (x3 + 1) σ2))) := (xm_it_eq [6, 49, 176, 187, 223, 293] 18).trans rfl
set_option maxHeartbeats 8000000 in
set_option maxRecDepth 20000 in
theorem X_Mod_digest_49_e (d : Nat) (x1 : Int64) (x3 : Int32) (σ : Sg) : X_Mod_digest_49 (d + 1) x1 x3 σ =
  xm_br ((σ.1 39 5) ≤ x3)
    (xm_cL (X_Mod_part d (σ.2 39 22) (σ.2 39 17) 0 σ) (fun r2 σ1 => xm_cL (X_Mod_part d (σ1.2 39 22) (σ1.2 39 17) 1 σ1) (fun r4 σ3 => xm_cV (X_Mod_findCounts d σ3) (fun σ5 => X_Mod_digest_176 (d + 1) ((31 * ((31 * x1) + r2)) + r4) 0 σ5))))
    (xm_cI (X_Mod_degree d x3 σ) (fun r7 σ6 => xm_ix x3 9 (fun j8 => xm_ix x3 9 (fun j9 => xm_cL (X_Mod_part d (σ6.2 50 j9) (σ6.2 39 17) 0 σ6) (fun r11 σ10 => xm_ix x3 9 (fun j12 => xm_cL (X_Mod_part d (σ10.2 50 j12) (σ10.2 39 17) 1 σ10) (fun r14 σ13 => X_Mod_digest_49 (d + 1) ((31 * ((31 * ((31 * ((31 * x1) + r7.toInt64)) + ((σ6.1 45 j8).toInt64))) + r11)) + r14) (x3 + 1) σ13))))))) := (xm_it_eq [6, 49, 176, 187, 223, 293] 52).trans rfl
set_option maxHeartbeats 8000000 in
set_option maxRecDepth 20000 in
theorem X_Mod_digest_176_e (d : Nat) (x1 : Int64) (x3 : Int32) (σ : Sg) : X_Mod_digest_176 d x1 x3 σ =
  xm_br ((σ.1 39 26) ≤ x3)
    (X_Mod_digest_223 d x1 0 σ)
    (X_Mod_digest_187 d x1 x3 0 σ) := (xm_it_eq [6, 49, 176, 187, 223, 293] 7).trans rfl
set_option maxHeartbeats 8000000 in
set_option maxRecDepth 20000 in
theorem X_Mod_digest_187_e (d : Nat) (x1 : Int64) (x3 : Int32) (x4 : Int32) (σ : Sg) : X_Mod_digest_187 (d + 1) x1 x3 x4 σ =
  xm_br (8 ≤ x4)
    (X_Mod_digest_176 (d + 1) x1 (x3 + 1) σ)
    (xm_cI (X_Mod_recordOf d x3 x4 σ) (fun r2 σ1 => X_Mod_digest_187 (d + 1) ((31 * x1) + r2.toInt64) x3 (x4 + 1) σ1)) := (xm_it_eq [6, 49, 176, 187, 223, 293] 16).trans rfl
set_option maxHeartbeats 8000000 in
set_option maxRecDepth 20000 in
theorem X_Mod_digest_223_e (d : Nat) (x1 : Int64) (x3 : Int32) (σ : Sg) : X_Mod_digest_223 (d + 1) x1 x3 σ =
  xm_br (6 ≤ x3)
    (xm_cI (X_Mod_alikeOf d 0 σ) (fun r2 σ1 => xm_cI (X_Mod_partsNow d 0 σ1) (fun r4 σ3 => xm_cI (X_Mod_partsNow d 1 σ3) (fun r6 σ5 => X_Mod_digest_293 (d + 1) ((31 * ((31 * ((31 * x1) + r2.toInt64)) + r4.toInt64)) + r6.toInt64) 0 σ5))))
    (xm_cL (X_Mod_shareOf d (x3 / 2) (x3 - x3 / 2 * 2) σ) (fun r8 σ7 => X_Mod_digest_223 (d + 1) ((31 * x1) + r8) (x3 + 1) σ7)) := (xm_it_eq [6, 49, 176, 187, 223, 293] 33).trans rfl
set_option maxHeartbeats 8000000 in
set_option maxRecDepth 20000 in
theorem X_Mod_digest_293_e (d : Nat) (x1 : Int64) (x3 : Int32) (σ : Sg) : X_Mod_digest_293 (d + 1) x1 x3 σ =
  xm_br (3 ≤ x3)
    (some (some (.long x1), σ))
    (xm_cL (X_Mod_narrowOf d x3 σ) (fun r2 σ1 => X_Mod_digest_293 (d + 1) ((31 * x1) + r2) (x3 + 1) σ1)) := (xm_it_eq [6, 49, 176, 187, 223, 293] 14).trans rfl
