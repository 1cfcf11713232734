noncomputable def X_TO_size (d : Nat) (x1 : Int32) (x2 : Int32) (σ : Sg) : Oz := xm_rn (xm_call d) 2 kc_TO_size 0 [.ref 0, .int x1, .int x2] [] σ
set_option maxHeartbeats 8000000 in
set_option maxRecDepth 20000 in
theorem X_TO_size_e (d : Nat) (x1 : Int32) (x2 : Int32) (σ : Sg) : X_TO_size (d + 1) x1 x2 σ =
  xm_cI (X_TO_isUpTo d x1 1 7 σ) (fun r2 σ1 => xm_br (r2 = 0)
    (xm_cL (X_TO_refusal d (-2) σ1) (fun r4 σ3 => some (some (.long r4), σ3)))
    (xm_cI (X_TO_isBit d x2 σ1) (fun r6 σ5 => xm_br (r6 = 0)
      (xm_cL (X_TO_refusal d (-2) σ5) (fun r13 σ12 => some (some (.long r13), σ12)))
      (xm_cV (X_Chains_follow d (σ5.1 0 8) (σ5.1 0 9) σ5) (fun σ7 => xm_cL (X_Chains_ofSize d x1 σ7) (fun r9 σ8 => xm_cL (X_TO_fraction d r9 (σ8.2 3 6) x2 σ8) (fun r11 σ10 => some (some (.long r11), σ10)))))))) := (xm_it_eq [] 26).trans rfl
noncomputable def X_Chains_ofKind (d : Nat) (x1 : Int32) (σ : Sg) : Oz := xm_rn (xm_call d) 2 kc_Chains_ofKind 0 [.ref 3, .int x1, .null, .null, .null] [] σ
noncomputable def X_Chains_ofKind_5 (d : Nat) (x1 : Int32) (x2 : Int64) (x4 : Int32) (σ : Sg) : Oz := xm_rn (xm_call d) 2 kc_Chains_ofKind 5 [.ref 3, .int x1, .long x2, .null, .int x4] [] σ
set_option maxHeartbeats 8000000 in
set_option maxRecDepth 20000 in
theorem X_Chains_ofKind_e (d : Nat) (x1 : Int32) (σ : Sg) : X_Chains_ofKind d x1 σ =
  X_Chains_ofKind_5 d x1 0 1 σ := (xm_it_eq [5] 5).trans rfl
set_option maxHeartbeats 8000000 in
set_option maxRecDepth 20000 in
theorem X_Chains_ofKind_5_e (d : Nat) (x1 : Int32) (x2 : Int64) (x4 : Int32) (σ : Sg) : X_Chains_ofKind_5 (d + 1) x1 x2 x4 σ =
  xm_cI (X_Net_everyone d σ) (fun r2 σ1 => xm_br (r2 < x4)
    (some (some (.long x2), σ1))
    (xm_cI (X_Int_bitCount d (x4 &&& (σ1.1 1 2)) σ1) (fun r4 σ3 => xm_br (r4 = x1)
      (xm_ix x4 512 (fun j5 => X_Chains_ofKind_5 (d + 1) x1 (x2 + (σ3.2 5 j5)) (x4 + 1) σ3))
      (X_Chains_ofKind_5 (d + 1) x1 (x2 + 0) (x4 + 1) σ3)))) := (xm_it_eq [5] 24).trans rfl
noncomputable def X_TO_kinds (d : Nat) (x1 : Int32) (x2 : Int32) (σ : Sg) : Oz := xm_rn (xm_call d) 2 kc_TO_kinds 0 [.ref 0, .int x1, .int x2] [] σ
set_option maxHeartbeats 8000000 in
set_option maxRecDepth 20000 in
theorem X_TO_kinds_e (d : Nat) (x1 : Int32) (x2 : Int32) (σ : Sg) : X_TO_kinds (d + 1) x1 x2 σ =
  xm_cI (X_TO_isUpTo d x1 0 7 σ) (fun r2 σ1 => xm_br (r2 = 0)
    (xm_cL (X_TO_refusal d (-2) σ1) (fun r4 σ3 => some (some (.long r4), σ3)))
    (xm_cI (X_TO_isBit d x2 σ1) (fun r6 σ5 => xm_br (r6 = 0)
      (xm_cL (X_TO_refusal d (-2) σ5) (fun r13 σ12 => some (some (.long r13), σ12)))
      (xm_cV (X_Chains_follow d (σ5.1 0 8) (σ5.1 0 9) σ5) (fun σ7 => xm_cL (X_Chains_ofKind d x1 σ7) (fun r9 σ8 => xm_cL (X_TO_fraction d r9 (σ8.2 3 6) x2 σ8) (fun r11 σ10 => some (some (.long r11), σ10)))))))) := (xm_it_eq [] 26).trans rfl
noncomputable def X_Chains_weight (d : Nat) (x1 : Int32) (σ : Sg) : Oz := xm_rn (xm_call d) 2 kc_Chains_weight 0 [.ref 3, .int x1, .null, .null, .null, .null] [] σ
noncomputable def X_Chains_weight_5 (d : Nat) (x1 : Int32) (x2 : Int64) (x4 : Int32) (σ : Sg) : Oz := xm_rn (xm_call d) 2 kc_Chains_weight 5 [.ref 3, .int x1, .long x2, .null, .int x4, .null] [] σ
set_option maxHeartbeats 8000000 in
set_option maxRecDepth 20000 in
theorem X_Chains_weight_e (d : Nat) (x1 : Int32) (σ : Sg) : X_Chains_weight d x1 σ =
  X_Chains_weight_5 d x1 0 0 σ := (xm_it_eq [5] 5).trans rfl
set_option maxHeartbeats 8000000 in
set_option maxRecDepth 20000 in
theorem X_Chains_weight_5_e (d : Nat) (x1 : Int32) (x2 : Int64) (x4 : Int32) (σ : Sg) : X_Chains_weight_5 (d + 1) x1 x2 x4 σ =
  xm_br ((σ.1 1 1) ≤ x4)
    (some (some (.long x2), σ))
    (xm_ix x4 9 (fun j1 => xm_cI (X_Int_bitCount d (σ.1 2 j1) σ) (fun r3 σ2 => xm_dv (xm_imax 1 r3) (X_Chains_weight_5 (d + 1) x1 (x2 + ((((x1 >>> (x4 &&& 31)) &&& 1) * (840 / (xm_imax 1 r3))).toInt64)) (x4 + 1) σ2)))) := (xm_it_eq [5] 30).trans rfl
noncomputable def X_Net_kindOnes (d : Nat)  (σ : Sg) : Oz := xm_rn (xm_call d) 1 kc_Net_kindOnes 0 [.ref 1] [] σ
set_option maxHeartbeats 8000000 in
set_option maxRecDepth 20000 in
theorem X_Net_kindOnes_e (d : Nat)  (σ : Sg) : X_Net_kindOnes (d + 1) σ =
  xm_cI (X_Int_bitCount d (σ.1 1 2) σ) (fun r2 σ1 => some (some (.int r2), σ1)) := (xm_it_eq [] 5).trans rfl
noncomputable def X_Chains_isNear (d : Nat) (x1 : Int32) (x2 : Int32) (σ : Sg) : Oz := xm_rn (xm_call d) 3 kc_Chains_isNear 0 [.ref 3, .int x1, .int x2, .null, .null, .null, .null, .null, .null] [] σ
noncomputable def X_Chains_isNear_69 (d : Nat) (s0 : Int32) (σ : Sg) : Oz := xm_rn (xm_call d) 3 kc_Chains_isNear 69 [.null, .null, .null, .null, .null, .null, .null, .null, .null] [.int s0] σ
set_option maxHeartbeats 8000000 in
set_option maxRecDepth 20000 in
theorem X_Chains_isNear_e (d : Nat) (x1 : Int32) (x2 : Int32) (σ : Sg) : X_Chains_isNear (d + 1) x1 x2 σ =
  xm_cL (X_Chains_weight d (x1 &&& (σ.1 1 2)) σ) (fun r2 σ1 => xm_cL (X_Chains_weight d x1 σ1) (fun r4 σ3 => xm_cI (X_Net_kindOnes d σ3) (fun r6 σ5 => X_Chains_isNear_69 (d + 1) (lg_cmp ((xm_labs ((r2 * ((σ3.1 1 1).toInt64)) - (r4 * r6.toInt64))) * 100) ((r4 * ((σ5.1 1 1).toInt64)) * x2.toInt64)) σ5))) := (xm_it_eq [69] 41).trans rfl
set_option maxHeartbeats 8000000 in
set_option maxRecDepth 20000 in
theorem X_Chains_isNear_69_e (d : Nat) (s0 : Int32) (σ : Sg) : X_Chains_isNear_69 d s0 σ =
  xm_br (0 < s0)
    (some (some (.int 0), σ))
    (some (some (.int 1), σ)) := (xm_it_eq [69] 5).trans rfl
noncomputable def X_Chains_near (d : Nat) (x1 : Int32) (σ : Sg) : Oz := xm_rn (xm_call d) 2 kc_Chains_near 0 [.ref 3, .int x1, .null, .null, .null] [] σ
noncomputable def X_Chains_near_5 (d : Nat) (x1 : Int32) (x2 : Int64) (x4 : Int32) (σ : Sg) : Oz := xm_rn (xm_call d) 2 kc_Chains_near 5 [.ref 3, .int x1, .long x2, .null, .int x4] [] σ
set_option maxHeartbeats 8000000 in
set_option maxRecDepth 20000 in
theorem X_Chains_near_e (d : Nat) (x1 : Int32) (σ : Sg) : X_Chains_near d x1 σ =
  X_Chains_near_5 d x1 0 1 σ := (xm_it_eq [5] 5).trans rfl
set_option maxHeartbeats 8000000 in
set_option maxRecDepth 20000 in
theorem X_Chains_near_5_e (d : Nat) (x1 : Int32) (x2 : Int64) (x4 : Int32) (σ : Sg) : X_Chains_near_5 (d + 1) x1 x2 x4 σ =
  xm_cI (X_Net_everyone d σ) (fun r2 σ1 => xm_br (r2 < x4)
    (some (some (.long x2), σ1))
    (xm_ix x4 512 (fun j3 => xm_br ((lg_cmp (σ1.2 5 j3) 0) ≤ 0)
      (X_Chains_near_5 (d + 1) x1 (x2 + 0) (x4 + 1) σ1)
      (xm_cI (X_Chains_isNear d x4 x1 σ1) (fun r5 σ4 => xm_br (r5 = 0)
        (X_Chains_near_5 (d + 1) x1 (x2 + 0) (x4 + 1) σ4)
        (xm_ix x4 512 (fun j6 => X_Chains_near_5 (d + 1) x1 (x2 + (σ4.2 5 j6)) (x4 + 1) σ4))))))) := (xm_it_eq [5] 28).trans rfl
noncomputable def X_TO_within (d : Nat) (x1 : Int32) (x2 : Int32) (σ : Sg) : Oz := xm_rn (xm_call d) 2 kc_TO_within 0 [.ref 0, .int x1, .int x2] [] σ
set_option maxHeartbeats 8000000 in
set_option maxRecDepth 20000 in
theorem X_TO_within_e (d : Nat) (x1 : Int32) (x2 : Int32) (σ : Sg) : X_TO_within (d + 1) x1 x2 σ =
  xm_cI (X_TO_isUpTo d x1 0 100 σ) (fun r2 σ1 => xm_br (r2 = 0)
    (xm_cL (X_TO_refusal d (-2) σ1) (fun r4 σ3 => some (some (.long r4), σ3)))
    (xm_cI (X_TO_isBit d x2 σ1) (fun r6 σ5 => xm_br (r6 = 0)
      (xm_cL (X_TO_refusal d (-2) σ5) (fun r13 σ12 => some (some (.long r13), σ12)))
      (xm_cV (X_Chains_follow d (σ5.1 0 8) (σ5.1 0 9) σ5) (fun σ7 => xm_cL (X_Chains_near d x1 σ7) (fun r9 σ8 => xm_cL (X_TO_fraction d r9 (σ8.2 3 6) x2 σ8) (fun r11 σ10 => some (some (.long r11), σ10)))))))) := (xm_it_eq [] 26).trans rfl
noncomputable def X_Arr_fillL_c7 (d : Nat) (x1 : Int64) (σ : Sg) : Oz := xm_rn (xm_call d) 0 kc_Arr_fillL 0 [.ref 7, .long x1, .null, .null, .null] [] σ
noncomputable def X_Arr_fillL_c7_6 (d : Nat) (x1 : Int64) (x3 : Int32) (x4 : Int32) (σ : Sg) : Oz := xm_rn (xm_call d) 0 kc_Arr_fillL 6 [.ref 7, .long x1, .null, .int x3, .int x4] [] σ
set_option maxHeartbeats 8000000 in
set_option maxRecDepth 20000 in
theorem X_Arr_fillL_c7_e (d : Nat) (x1 : Int64) (σ : Sg) : X_Arr_fillL_c7 d x1 σ =
  X_Arr_fillL_c7_6 d x1 0 9 σ := (xm_it_eq [6] 6).trans rfl
set_option maxHeartbeats 8000000 in
set_option maxRecDepth 20000 in
theorem X_Arr_fillL_c7_6_e (d : Nat) (x1 : Int64) (x3 : Int32) (x4 : Int32) (σ : Sg) : X_Arr_fillL_c7_6 d x1 x3 x4 σ =
  xm_br (x4 ≤ x3)
    (some (none, σ))
    (xm_ix x3 9 (fun j1 => X_Arr_fillL_c7_6 d x1 (x3 + 1) x4 (xm_sL σ 7 j1 x1))) := (xm_it_eq [6] 10).trans rfl
noncomputable def X_Walk_step (d : Nat)  (σ : Sg) : Oz := xm_rn (xm_call d) 0 kc_Walk_step 0 [.ref 6, .null, .null, .null] [] σ
noncomputable def X_Walk_step_10 (d : Nat) (x1 : Int32) (σ : Sg) : Oz := xm_rn (xm_call d) 0 kc_Walk_step 10 [.ref 6, .int x1, .null, .null] [] σ
noncomputable def X_Walk_step_54 (d : Nat) (x1 : Int32) (x2 : Int32) (x3 : Int32) (σ : Sg) : Oz := xm_rn (xm_call d) 0 kc_Walk_step 54 [.ref 6, .int x1, .int x2, .int x3] [] σ
set_option maxHeartbeats 8000000 in
set_option maxRecDepth 20000 in
theorem X_Walk_step_e (d : Nat)  (σ : Sg) : X_Walk_step (d + 1) σ =
  xm_cV (X_Arr_fillL_c7 d 0 σ) (fun σ1 => X_Walk_step_10 (d + 1) 0 σ1) := (xm_it_eq [10, 54] 7).trans rfl
set_option maxHeartbeats 8000000 in
set_option maxRecDepth 20000 in
theorem X_Walk_step_10_e (d : Nat) (x1 : Int32) (σ : Sg) : X_Walk_step_10 (d + 1) x1 σ =
  xm_br ((σ.1 1 1) ≤ x1)
    (some (none, (xm_yL σ 7 8 0 0 9)))
    (xm_cI (X_Net_degree d x1 σ) (fun r2 σ1 => xm_br (r2 = 0)
      (xm_ix x1 9 (fun j3 => xm_ix x1 9 (fun j4 => xm_ix x1 9 (fun j5 => X_Walk_step_10 (d + 1) (x1 + 1) (xm_sL σ1 7 j5 ((σ1.2 7 j3) + (σ1.2 8 j4)))))))
      (X_Walk_step_54 (d + 1) x1 r2 0 σ1))) := (xm_it_eq [10, 54] 27).trans rfl
set_option maxHeartbeats 8000000 in
set_option maxRecDepth 20000 in
theorem X_Walk_step_54_e (d : Nat) (x1 : Int32) (x2 : Int32) (x3 : Int32) (σ : Sg) : X_Walk_step_54 (d + 1) x1 x2 x3 σ =
  xm_br ((σ.1 1 1) ≤ x3)
    (X_Walk_step_10 (d + 1) (x1 + 1) σ)
    (xm_ix x3 9 (fun j1 => xm_cI (X_Net_tied d x1 x3 σ) (fun r3 σ2 => xm_br (r3 = 0)
      (xm_ix x3 9 (fun j4 => X_Walk_step_54 (d + 1) x1 x2 (x3 + 1) (xm_sL σ2 7 j4 ((σ.2 7 j1) + 0))))
      (xm_ix x1 9 (fun j5 => xm_dvL x2.toInt64 (xm_ix x3 9 (fun j6 => X_Walk_step_54 (d + 1) x1 x2 (x3 + 1) (xm_sL σ2 7 j6 ((σ.2 7 j1) + ((σ2.2 8 j5) / x2.toInt64)))))))))) := (xm_it_eq [10, 54] 29).trans rfl
noncomputable def X_Walk_go (d : Nat) (x1 : Int32) (x2 : Int32) (σ : Sg) : Oz := xm_rn (xm_call d) 0 kc_Walk_go 0 [.ref 6, .int x1, .int x2, .null, .null] [] σ
noncomputable def X_Walk_go_7 (d : Nat) (x1 : Int32) (x2 : Int32) (x3 : Int32) (σ : Sg) : Oz := xm_rn (xm_call d) 0 kc_Walk_go 7 [.ref 6, .int x1, .int x2, .int x3, .null] [] σ
noncomputable def X_Walk_go_82 (d : Nat) (x2 : Int32) (x3 : Int32) (σ : Sg) : Oz := xm_rn (xm_call d) 0 kc_Walk_go 82 [.ref 6, .null, .int x2, .int x3, .null] [] σ
set_option maxHeartbeats 8000000 in
set_option maxRecDepth 20000 in
theorem X_Walk_go_e (d : Nat) (x1 : Int32) (x2 : Int32) (σ : Sg) : X_Walk_go d x1 x2 σ =
  X_Walk_go_7 d x1 x2 0 (xm_sL σ 6 3 0) := (xm_it_eq [7, 82] 6).trans rfl
set_option maxHeartbeats 8000000 in
set_option maxRecDepth 20000 in
theorem X_Walk_go_7_e (d : Nat) (x1 : Int32) (x2 : Int32) (x3 : Int32) (σ : Sg) : X_Walk_go_7 (d + 1) x1 x2 x3 σ =
  xm_br (9 ≤ x3)
    (X_Walk_go_82 (d + 1) x2 0 σ)
    (xm_cI (X_Net_holds d x3 σ) (fun r2 σ1 => xm_br (r2 = 0)
      (xm_ix x3 9 (fun j3 => xm_ix x3 9 (fun j4 => X_Walk_go_7 (d + 1) x1 x2 (x3 + 1) (xm_sL (xm_sL σ1 8 j3 0) 6 3 ((σ1.2 6 3) + (((xm_sL σ1 8 j3 0)).2 8 j4))))))
      (xm_br (x1 = (-1))
        (xm_ix x3 9 (fun j5 => xm_ix x3 9 (fun j6 => X_Walk_go_7 (d + 1) x1 x2 (x3 + 1) (xm_sL (xm_sL σ1 8 j5 418211942400000) 6 3 ((σ1.2 6 3) + (((xm_sL σ1 8 j5 418211942400000)).2 8 j6))))))
        (xm_br (x1 = x3)
          (xm_ix x3 9 (fun j9 => xm_ix x3 9 (fun j10 => X_Walk_go_7 (d + 1) x1 x2 (x3 + 1) (xm_sL (xm_sL σ1 8 j9 418211942400000) 6 3 ((σ1.2 6 3) + (((xm_sL σ1 8 j9 418211942400000)).2 8 j10))))))
          (xm_ix x3 9 (fun j7 => xm_ix x3 9 (fun j8 => X_Walk_go_7 (d + 1) x1 x2 (x3 + 1) (xm_sL (xm_sL σ1 8 j7 0) 6 3 ((σ1.2 6 3) + (((xm_sL σ1 8 j7 0)).2 8 j8)))))))))) := (xm_it_eq [7, 82] 37).trans rfl
set_option maxHeartbeats 8000000 in
set_option maxRecDepth 20000 in
theorem X_Walk_go_82_e (d : Nat) (x2 : Int32) (x3 : Int32) (σ : Sg) : X_Walk_go_82 (d + 1) x2 x3 σ =
  xm_br (x2 ≤ x3)
    (some (none, σ))
    (xm_cV (X_Walk_step d σ) (fun σ1 => X_Walk_go_82 (d + 1) x2 (x3 + 1) σ1)) := (xm_it_eq [7, 82] 8).trans rfl
noncomputable def X_TO_at (d : Nat) (x1 : Int32) (x2 : Int32) (x3 : Int32) (σ : Sg) : Oz := xm_rn (xm_call d) 2 kc_TO_at 0 [.ref 0, .int x1, .int x2, .int x3] [] σ
set_option maxHeartbeats 8000000 in
set_option maxRecDepth 20000 in
theorem X_TO_at_e (d : Nat) (x1 : Int32) (x2 : Int32) (x3 : Int32) (σ : Sg) : X_TO_at (d + 1) x1 x2 x3 σ =
  xm_cI (X_TO_isUpTo d x1 0 5 σ) (fun r2 σ1 => xm_br (r2 = 0)
    (xm_cL (X_TO_refusal d (-2) σ1) (fun r4 σ3 => some (some (.long r4), σ3)))
    (xm_cI (X_Net_holds d x2 σ1) (fun r6 σ5 => xm_br (r6 = 0)
      (xm_cL (X_TO_refusal d (-2) σ5) (fun r8 σ7 => some (some (.long r8), σ7)))
      (xm_cI (X_TO_isBit d x3 σ5) (fun r10 σ9 => xm_br (r10 = 0)
        (xm_cL (X_TO_refusal d (-2) σ9) (fun r16 σ15 => some (some (.long r16), σ15)))
        (xm_cV (X_Walk_go d (σ9.1 0 8) x1 σ9) (fun σ11 => xm_ix x2 9 (fun j12 => xm_cL (X_TO_fraction d (σ11.2 8 j12) (σ11.2 6 3) x3 σ11) (fun r14 σ13 => some (some (.long r14), σ13)))))))))) := (xm_it_eq [] 31).trans rfl
noncomputable def X_Net_degrees (d : Nat) (x1 : Int32) (σ : Sg) : Oz := xm_rn (xm_call d) 1 kc_Net_degrees 0 [.ref 1, .int x1, .null, .null] [] σ
noncomputable def X_Net_degrees_4 (d : Nat) (x1 : Int32) (x2 : Int32) (x3 : Int32) (σ : Sg) : Oz := xm_rn (xm_call d) 1 kc_Net_degrees 4 [.ref 1, .int x1, .int x2, .int x3] [] σ
set_option maxHeartbeats 8000000 in
set_option maxRecDepth 20000 in
theorem X_Net_degrees_e (d : Nat) (x1 : Int32) (σ : Sg) : X_Net_degrees d x1 σ =
  X_Net_degrees_4 d x1 0 0 σ := (xm_it_eq [4] 5).trans rfl
set_option maxHeartbeats 8000000 in
set_option maxRecDepth 20000 in
theorem X_Net_degrees_4_e (d : Nat) (x1 : Int32) (x2 : Int32) (x3 : Int32) (σ : Sg) : X_Net_degrees_4 (d + 1) x1 x2 x3 σ =
  xm_br ((σ.1 1 1) ≤ x3)
    (some (some (.int x2), σ))
    (xm_cI (X_Net_degree d x3 σ) (fun r2 σ1 => X_Net_degrees_4 (d + 1) x1 (x2 + (((x1 >>> (x3 &&& 31)) &&& 1) * r2)) (x3 + 1) σ1)) := (xm_it_eq [4] 19).trans rfl
noncomputable def X_TO_lasting (d : Nat) (x1 : Int32) (x2 : Int32) (σ : Sg) : Oz := xm_rn (xm_call d) 2 kc_TO_lasting 0 [.ref 0, .int x1, .int x2] [] σ
set_option maxHeartbeats 8000000 in
set_option maxRecDepth 20000 in
theorem X_TO_lasting_e (d : Nat) (x1 : Int32) (x2 : Int32) (σ : Sg) : X_TO_lasting (d + 1) x1 x2 σ =
  xm_cI (X_Net_holds d x1 σ) (fun r2 σ1 => xm_br (r2 = 0)
    (xm_cL (X_TO_refusal d (-2) σ1) (fun r4 σ3 => some (some (.long r4), σ3)))
    (xm_cI (X_TO_isBit d x2 σ1) (fun r6 σ5 => xm_br (r6 = 0)
      (xm_cL (X_TO_refusal d (-2) σ5) (fun r16 σ15 => some (some (.long r16), σ15)))
      (xm_cI (X_Net_degree d x1 σ5) (fun r8 σ7 => xm_cI (X_Net_everyone d σ7) (fun r10 σ9 => xm_cI (X_Net_degrees d r10 σ9) (fun r12 σ11 => xm_cL (X_TO_fraction d r8.toInt64 r12.toInt64 x2 σ11) (fun r14 σ13 => some (some (.long r14), σ13))))))))) := (xm_it_eq [] 24).trans rfl
noncomputable def X_Walk_apart (d : Nat)  (σ : Sg) : Oz := xm_rn (xm_call d) 2 kc_Walk_apart 0 [.ref 6, .null, .null, .null, .null, .null] [] σ
noncomputable def X_Walk_apart_21 (d : Nat) (x1 : Int64) (x3 : Int64) (x5 : Int32) (σ : Sg) : Oz := xm_rn (xm_call d) 2 kc_Walk_apart 21 [.ref 6, .long x1, .null, .long x3, .null, .int x5] [] σ
set_option maxHeartbeats 8000000 in
set_option maxRecDepth 20000 in
theorem X_Walk_apart_e (d : Nat)  (σ : Sg) : X_Walk_apart (d + 1) σ =
  xm_cI (X_Net_everyone d σ) (fun r2 σ1 => xm_cI (X_Net_degrees d r2 σ1) (fun r4 σ3 => X_Walk_apart_21 (d + 1) r4.toInt64 0 0 σ3)) := (xm_it_eq [21] 13).trans rfl
set_option maxHeartbeats 8000000 in
set_option maxRecDepth 20000 in
theorem X_Walk_apart_21_e (d : Nat) (x1 : Int64) (x3 : Int64) (x5 : Int32) (σ : Sg) : X_Walk_apart_21 (d + 1) x1 x3 x5 σ =
  xm_br ((σ.1 1 1) ≤ x5)
    (some (some (.long x3), σ))
    (xm_ix x5 9 (fun j1 => xm_cI (X_Net_degree d x5 σ) (fun r3 σ2 => X_Walk_apart_21 (d + 1) x1 (x3 + (xm_labs (((σ.2 8 j1) * x1) - (r3.toInt64 * (σ2.2 6 3))))) (x5 + 1) σ2))) := (xm_it_eq [21] 27).trans rfl
noncomputable def X_Walk_mostApart (d : Nat)  (σ : Sg) : Oz := xm_rn (xm_call d) 2 kc_Walk_mostApart 0 [.ref 6] [] σ
set_option maxHeartbeats 8000000 in
set_option maxRecDepth 20000 in
theorem X_Walk_mostApart_e (d : Nat)  (σ : Sg) : X_Walk_mostApart (d + 1) σ =
  xm_cI (X_Net_everyone d σ) (fun r2 σ1 => xm_cI (X_Net_degrees d r2 σ1) (fun r4 σ3 => some (some (.long ((2 * (σ.2 6 3)) * r4.toInt64)), σ3))) := (xm_it_eq [] 14).trans rfl
noncomputable def X_TO_strayed (d : Nat) (x1 : Int32) (x2 : Int32) (σ : Sg) : Oz := xm_rn (xm_call d) 2 kc_TO_strayed 0 [.ref 0, .int x1, .int x2] [] σ
set_option maxHeartbeats 8000000 in
set_option maxRecDepth 20000 in
theorem X_TO_strayed_e (d : Nat) (x1 : Int32) (x2 : Int32) (σ : Sg) : X_TO_strayed (d + 1) x1 x2 σ =
  xm_cI (X_TO_isUpTo d x1 0 5 σ) (fun r2 σ1 => xm_br (r2 = 0)
    (xm_cL (X_TO_refusal d (-2) σ1) (fun r4 σ3 => some (some (.long r4), σ3)))
    (xm_cI (X_TO_isBit d x2 σ1) (fun r6 σ5 => xm_br (r6 = 0)
      (xm_cL (X_TO_refusal d (-2) σ5) (fun r15 σ14 => some (some (.long r15), σ14)))
      (xm_cV (X_Walk_go d (σ5.1 0 8) x1 σ5) (fun σ7 => xm_cL (X_Walk_apart d σ7) (fun r9 σ8 => xm_cL (X_Walk_mostApart d σ8) (fun r11 σ10 => xm_cL (X_TO_fraction d r9 r11 x2 σ10) (fun r13 σ12 => some (some (.long r13), σ12))))))))) := (xm_it_eq [] 24).trans rfl
noncomputable def X_Records_holds (d : Nat) (x1 : Int32) (σ : Sg) : Oz := xm_rn (xm_call d) 3 kc_Records_holds 0 [.ref 9, .int x1] [] σ
set_option maxHeartbeats 8000000 in
set_option maxRecDepth 20000 in
theorem X_Records_holds_e (d : Nat) (x1 : Int32) (σ : Sg) : X_Records_holds d x1 σ =
  xm_br (x1 < 0)
    (some (some (.int 0), σ))
    (xm_br ((σ.1 9 9) ≤ x1)
      (some (some (.int 0), σ))
      (some (some (.int 1), σ))) := (xm_it_eq [] 10).trans rfl
noncomputable def X_Records_isNextDay (d : Nat) (x1 : Int32) (σ : Sg) : Oz := xm_rn (xm_call d) 3 kc_Records_isNextDay 0 [.ref 9, .int x1] [] σ
set_option maxHeartbeats 8000000 in
set_option maxRecDepth 20000 in
theorem X_Records_isNextDay_e (d : Nat) (x1 : Int32) (σ : Sg) : X_Records_isNextDay d x1 σ =
  xm_br (x1 < (σ.1 9 10))
    (some (some (.int 0), σ))
    (xm_br (99 < x1)
      (some (some (.int 0), σ))
      (some (some (.int 1), σ))) := (xm_it_eq [] 11).trans rfl
noncomputable def X_Records_tell (d : Nat) (x1 : Int32) (x2 : Int32) (x3 : Int32) (x4 : Int32) (σ : Sg) : Oz := xm_rn (xm_call d) 1 kc_Records_tell 0 [.ref 9, .int x1, .int x2, .int x3, .int x4, .null, .null] [] σ
set_option maxHeartbeats 8000000 in
set_option maxRecDepth 20000 in
theorem X_Records_tell_e (d : Nat) (x1 : Int32) (x2 : Int32) (x3 : Int32) (x4 : Int32) (σ : Sg) : X_Records_tell (d + 1) x1 x2 x3 x4 σ =
  xm_br ((σ.1 9 9) < 24)
    (xm_cI (X_Records_holds d x1 σ) (fun r2 σ1 => xm_br (r2 = 0)
      (xm_ix (σ.1 9 9) 24 (fun j16 => xm_ix (σ.1 9 9) 24 (fun j17 => xm_ix (σ.1 9 9) 24 (fun j18 => xm_ix (σ.1 9 9) 24 (fun j19 => xm_ix (σ.1 9 9) 24 (fun j20 => xm_ix (σ.1 9 9) 24 (fun j21 => xm_ix (σ.1 9 9) 24 (fun j22 => xm_ix (σ.1 9 9) 24 (fun j23 => xm_cV (X_Records_look d (σ1.1 9 11) (xm_sI (xm_sI (xm_sI (xm_sI (xm_sI (xm_sI (xm_sI (xm_sI (xm_sI (xm_sI σ1 10 j16 (-1)) 11 j17 x2) 12 j18 x3) 13 j19 x4) 14 j20 100) 15 j21 0) 16 j22 (σ.1 9 9)) 17 j23 0) 9 9 ((σ1.1 9 9) + 1)) 9 10 x4)) (fun σ24 => some (some (.int (σ.1 9 9)), σ24)))))))))))
      (xm_ix (σ.1 9 9) 24 (fun j3 => xm_ix (σ.1 9 9) 24 (fun j4 => xm_ix (σ.1 9 9) 24 (fun j5 => xm_ix (σ.1 9 9) 24 (fun j6 => xm_ix (σ.1 9 9) 24 (fun j7 => xm_ix x1 24 (fun j8 => xm_ix (σ.1 9 9) 24 (fun j9 => xm_ix x1 24 (fun j10 => xm_ix (σ.1 9 9) 24 (fun j11 => xm_ix (σ.1 9 9) 24 (fun j12 => xm_ix x1 24 (fun j13 => xm_ix x1 24 (fun j14 => xm_cV (X_Records_look d (σ1.1 9 11) (xm_sI (xm_sI (xm_sI (xm_sI (xm_sI (xm_sI (xm_sI (xm_sI (xm_sI (xm_sI (xm_sI σ1 10 j3 x1) 11 j4 x2) 12 j5 x3) 13 j6 x4) 14 j7 100) 15 j9 ((σ1.1 15 j8) + 1)) 16 j11 (σ1.1 16 j10)) 17 j12 0) 17 j14 ((((xm_sI (xm_sI (xm_sI (xm_sI (xm_sI (xm_sI (xm_sI (xm_sI σ1 10 j3 x1) 11 j4 x2) 12 j5 x3) 13 j6 x4) 14 j7 100) 15 j9 ((σ1.1 15 j8) + 1)) 16 j11 (σ1.1 16 j10)) 17 j12 0)).1 17 j13) + 1)) 9 9 ((σ1.1 9 9) + 1)) 9 10 x4)) (fun σ15 => some (some (.int (σ.1 9 9)), σ15)))))))))))))))))
    (some (some (.int (-4)), σ)) := (xm_it_eq [] 93).trans rfl
noncomputable def X_TO_came (d : Nat) (x1 : Int32) (x2 : Int32) (x3 : Int32) (x4 : Int32) (σ : Sg) : Oz := xm_rn (xm_call d) 1 kc_TO_came 0 [.ref 0, .int x1, .int x2, .int x3, .int x4, .null, .null] [] σ
noncomputable def X_TO_came_43 (d : Nat) (x1 : Int32) (x2 : Int32) (x3 : Int32) (x4 : Int32) (x5 : Int32) (s0 : Int32) (σ : Sg) : Oz := xm_rn (xm_call d) 1 kc_TO_came 43 [.ref 0, .int x1, .int x2, .int x3, .int x4, .int x5, .null] [.int s0] σ
noncomputable def X_TO_came_74 (d : Nat)  (σ : Sg) : Oz := xm_rn (xm_call d) 1 kc_TO_came 74 [.null, .null, .null, .null, .null, .null, .null] [] σ
set_option maxHeartbeats 8000000 in
set_option maxRecDepth 20000 in
theorem X_TO_came_e (d : Nat) (x1 : Int32) (x2 : Int32) (x3 : Int32) (x4 : Int32) (σ : Sg) : X_TO_came (d + 1) x1 x2 x3 x4 σ =
  xm_br (x1 = (-1))
    (xm_br (x3 = (-1))
      (X_TO_came_43 (d + 1) x1 x2 x3 x4 1 1 σ)
      (xm_cI (X_TO_isUpTo d x3 1 20 σ) (fun r2 σ1 => xm_br (r2 = 0)
        (X_TO_came_43 (d + 1) x1 x2 x3 x4 1 0 σ1)
        (X_TO_came_43 (d + 1) x1 x2 x3 x4 1 1 σ1))))
    (xm_cI (X_Records_holds d x1 σ) (fun r4 σ3 => xm_br (r4 = 0)
      (xm_br (x3 = (-1))
        (X_TO_came_43 (d + 1) x1 x2 x3 x4 0 1 σ3)
        (xm_cI (X_TO_isUpTo d x3 1 20 σ3) (fun r6 σ5 => xm_br (r6 = 0)
          (X_TO_came_43 (d + 1) x1 x2 x3 x4 0 0 σ5)
          (X_TO_came_43 (d + 1) x1 x2 x3 x4 0 1 σ5))))
      (xm_br (x3 = (-1))
        (X_TO_came_43 (d + 1) x1 x2 x3 x4 1 1 σ3)
        (xm_cI (X_TO_isUpTo d x3 1 20 σ3) (fun r8 σ7 => xm_br (r8 = 0)
          (X_TO_came_43 (d + 1) x1 x2 x3 x4 1 0 σ7)
          (X_TO_came_43 (d + 1) x1 x2 x3 x4 1 1 σ7)))))) := (xm_it_eq [43, 74] 22).trans rfl
set_option maxHeartbeats 8000000 in
set_option maxRecDepth 20000 in
theorem X_TO_came_43_e (d : Nat) (x1 : Int32) (x2 : Int32) (x3 : Int32) (x4 : Int32) (x5 : Int32) (s0 : Int32) (σ : Sg) : X_TO_came_43 (d + 1) x1 x2 x3 x4 x5 s0 σ =
  xm_br (x5 = 0)
    (X_TO_came_74 (d + 1) σ)
    (xm_cI (X_TO_isBit d x2 σ) (fun r2 σ1 => xm_br (r2 = 0)
      (X_TO_came_74 (d + 1) σ1)
      (xm_br (s0 = 0)
        (X_TO_came_74 (d + 1) σ1)
        (xm_cI (X_Records_isNextDay d x4 σ1) (fun r4 σ3 => xm_br (r4 = 0)
          (X_TO_came_74 (d + 1) σ3)
          (xm_br ((σ3.1 9 9) < 24)
            (xm_br (x1 = (-1))
              (xm_cI (X_Records_tell d x1 x2 x3 x4 σ3) (fun r6 σ5 => some (some (.int r6), σ5)))
              (xm_ix x1 24 (fun j7 => xm_br ((σ3.1 17 j7) < 3)
                (xm_cI (X_Records_tell d x1 x2 x3 x4 σ3) (fun r9 σ8 => some (some (.int r9), σ8)))
                (some (some (.int (-3)), σ3)))))
            (some (some (.int (-4)), σ3)))))))) := (xm_it_eq [43, 74] 37).trans rfl
set_option maxHeartbeats 8000000 in
set_option maxRecDepth 20000 in
theorem X_TO_came_74_e (d : Nat)  (σ : Sg) : X_TO_came_74 d σ =
  some (some (.int (-2)), σ) := (xm_it_eq [43, 74] 3).trans rfl
noncomputable def X_Records_untell (d : Nat) (x1 : Int32) (x2 : Int32) (σ : Sg) : Oz := xm_rn (xm_call d) 0 kc_Records_untell 0 [.ref 9, .int x1, .int x2] [] σ
set_option maxHeartbeats 8000000 in
set_option maxRecDepth 20000 in
theorem X_Records_untell_e (d : Nat) (x1 : Int32) (x2 : Int32) (σ : Sg) : X_Records_untell (d + 1) x1 x2 σ =
  xm_cI (X_Records_holds d x1 σ) (fun r2 σ1 => xm_br (r2 = 0)
    (some (none, σ1))
    (xm_ix x1 24 (fun j3 => xm_cV (X_Records_look d (σ1.1 9 11) (xm_sI (xm_sI σ1 14 j3 x2) 9 10 x2)) (fun σ4 => some (none, σ4))))) := (xm_it_eq [] 18).trans rfl
noncomputable def X_TO_takeBack (d : Nat) (x1 : Int32) (x2 : Int32) (σ : Sg) : Oz := xm_rn (xm_call d) 1 kc_TO_takeBack 0 [.ref 0, .int x1, .int x2] [] σ
set_option maxHeartbeats 8000000 in
set_option maxRecDepth 20000 in
theorem X_TO_takeBack_e (d : Nat) (x1 : Int32) (x2 : Int32) (σ : Sg) : X_TO_takeBack (d + 1) x1 x2 σ =
  xm_cI (X_Records_holds d x1 σ) (fun r2 σ1 => xm_br (r2 = 0)
    (some (some (.int (-2)), σ1))
    (xm_cI (X_Records_isNextDay d x2 σ1) (fun r4 σ3 => xm_br (r4 = 0)
      (some (some (.int (-2)), σ3))
      (xm_ix x1 24 (fun j5 => xm_br ((σ3.1 14 j5) = 100)
        (xm_cV (X_Records_untell d x1 x2 σ3) (fun σ6 => some (some (.int 1), σ6)))
        (some (some (.int (-3)), σ3))))))) := (xm_it_eq [] 25).trans rfl
noncomputable def X_Records_detail (d : Nat) (x1 : Int32) (x2 : Int32) (σ : Sg) : Oz := xm_rn (xm_call d) 1 kc_Records_detail 0 [.ref 9, .int x1, .int x2] [] σ
set_option maxHeartbeats 8000000 in
set_option maxRecDepth 20000 in
theorem X_Records_detail_e (d : Nat) (x1 : Int32) (x2 : Int32) (σ : Sg) : X_Records_detail d x1 x2 σ =
  xm_br (x2 = 0)
    (xm_ix x1 24 (fun j1 => some (some (.int (σ.1 10 j1)), σ)))
    (xm_br (x2 = 1)
    (xm_ix x1 24 (fun j2 => some (some (.int (σ.1 11 j2)), σ)))
    (xm_br (x2 = 2)
    (xm_ix x1 24 (fun j3 => some (some (.int (σ.1 12 j3)), σ)))
    (xm_br (x2 = 3)
    (xm_ix x1 24 (fun j4 => some (some (.int (σ.1 13 j4)), σ)))
    (xm_br (x2 = 4)
    (xm_ix x1 24 (fun j5 => xm_br ((σ.1 18 j5) = 0)
      (some (some (.int 0), σ))
      (some (some (.int 1), σ))))
    (xm_br (x2 = 5)
    (xm_ix x1 24 (fun j6 => some (some (.int (σ.1 15 j6)), σ)))
    (xm_br (x2 = 6)
    (xm_ix x1 24 (fun j7 => some (some (.int (σ.1 16 j7)), σ)))
    (xm_ix x1 24 (fun j8 => some (some (.int (σ.1 17 j8)), σ))))))))) := (xm_it_eq [] 11).trans rfl
noncomputable def X_TO_record (d : Nat) (x1 : Int32) (x2 : Int32) (σ : Sg) : Oz := xm_rn (xm_call d) 1 kc_TO_record 0 [.ref 0, .int x1, .int x2] [] σ
set_option maxHeartbeats 8000000 in
set_option maxRecDepth 20000 in
theorem X_TO_record_e (d : Nat) (x1 : Int32) (x2 : Int32) (σ : Sg) : X_TO_record (d + 1) x1 x2 σ =
  xm_cI (X_Records_holds d x1 σ) (fun r2 σ1 => xm_br (r2 = 0)
    (some (some (.int (-5)), σ1))
    (xm_cI (X_TO_isUpTo d x2 0 7 σ1) (fun r4 σ3 => xm_br (r4 = 0)
      (some (some (.int (-5)), σ3))
      (xm_cI (X_Records_detail d x1 x2 σ3) (fun r6 σ5 => some (some (.int r6), σ5)))))) := (xm_it_eq [] 17).trans rfl
noncomputable def X_Records_isTaken (d : Nat) (x1 : Int32) (σ : Sg) : Oz := xm_rn (xm_call d) 3 kc_Records_isTaken 0 [.ref 9, .int x1] [] σ
set_option maxHeartbeats 8000000 in
set_option maxRecDepth 20000 in
theorem X_Records_isTaken_e (d : Nat) (x1 : Int32) (σ : Sg) : X_Records_isTaken d x1 σ =
  xm_ix x1 24 (fun j1 => xm_br ((σ.1 18 j1) = 0)
    (some (some (.int 0), σ))
    (xm_ix x1 24 (fun j2 => xm_br ((σ.1 15 j2) < (σ.1 9 12))
      (some (some (.int 0), σ))
      (some (some (.int 1), σ))))) := (xm_it_eq [] 16).trans rfl
noncomputable def X_Shares_taken (d : Nat) (x1 : Int32) (σ : Sg) : Oz := xm_rn (xm_call d) 2 kc_Shares_taken 0 [.ref 19, .int x1, .null, .null, .null] [] σ
noncomputable def X_Shares_taken_5 (d : Nat) (x1 : Int32) (x2 : Int64) (x4 : Int32) (σ : Sg) : Oz := xm_rn (xm_call d) 2 kc_Shares_taken 5 [.ref 19, .int x1, .long x2, .null, .int x4] [] σ
set_option maxHeartbeats 8000000 in
set_option maxRecDepth 20000 in
theorem X_Shares_taken_e (d : Nat) (x1 : Int32) (σ : Sg) : X_Shares_taken d x1 σ =
  X_Shares_taken_5 d x1 0 0 σ := (xm_it_eq [5] 5).trans rfl
set_option maxHeartbeats 8000000 in
set_option maxRecDepth 20000 in
theorem X_Shares_taken_5_e (d : Nat) (x1 : Int32) (x2 : Int64) (x4 : Int32) (σ : Sg) : X_Shares_taken_5 (d + 1) x1 x2 x4 σ =
  xm_br ((σ.1 9 9) ≤ x4)
    (some (some (.long x2), σ))
    (xm_cI (X_Records_isTaken d x4 σ) (fun r2 σ1 => xm_br (r2 = 0)
      (X_Shares_taken_5 (d + 1) x1 (x2 + 0) (x4 + 1) σ1)
      (xm_ix x4 24 (fun j3 => xm_br ((σ1.1 11 j3) = x1)
        (X_Shares_taken_5 (d + 1) x1 (x2 + 1) (x4 + 1) σ1)
        (X_Shares_taken_5 (d + 1) x1 (x2 + 0) (x4 + 1) σ1))))) := (xm_it_eq [5] 25).trans rfl
noncomputable def X_TO_part (d : Nat) (x0 : Int64) (x2 : Int64) (x4 : Int32) (σ : Sg) : Oz := xm_rn (xm_call d) 2 kc_TO_part 0 [.long x0, .null, .long x2, .null, .int x4] [] σ
set_option maxHeartbeats 8000000 in
set_option maxRecDepth 20000 in
theorem X_TO_part_e (d : Nat) (x0 : Int64) (x2 : Int64) (x4 : Int32) (σ : Sg) : X_TO_part (d + 1) x0 x2 x4 σ =
  xm_cL (X_TO_fraction d x0 (x0 + x2) x4 σ) (fun r2 σ1 => some (some (.long r2), σ1)) := (xm_it_eq [] 8).trans rfl
noncomputable def X_Shares_tells (d : Nat) (x1 : Int32) (x2 : Int32) (σ : Sg) : Oz := xm_rn (xm_call d) 3 kc_Shares_tells 0 [.ref 19, .int x1, .int x2, .null] [] σ
set_option maxHeartbeats 8000000 in
set_option maxRecDepth 20000 in
theorem X_Shares_tells_e (d : Nat) (x1 : Int32) (x2 : Int32) (σ : Sg) : X_Shares_tells (d + 1) x1 x2 σ =
  xm_ix x1 24 (fun j1 => xm_br ((σ.1 12 j1) = (-1))
    (some (some (.int 0), σ))
    (xm_cI (X_Records_isTaken d x1 σ) (fun r3 σ2 => xm_br (r3 = 0)
      (some (some (.int 0), σ2))
      (xm_ix x1 24 (fun j4 => xm_br ((σ2.1 11 j4) = x2)
        (some (some (.int 1), σ2))
        (some (some (.int 0), σ2))))))) := (xm_it_eq [] 28).trans rfl
noncomputable def X_Shares_byTies (d : Nat) (x1 : Int32) (x2 : Int32) (σ : Sg) : Oz := xm_rn (xm_call d) 2 kc_Shares_byTies 0 [.ref 19, .int x1, .int x2, .null, .null, .null, .null] [] σ
noncomputable def X_Shares_byTies_5 (d : Nat) (x1 : Int32) (x2 : Int32) (x3 : Int64) (x5 : Int32) (σ : Sg) : Oz := xm_rn (xm_call d) 2 kc_Shares_byTies 5 [.ref 19, .int x1, .int x2, .long x3, .null, .int x5, .null] [] σ
set_option maxHeartbeats 8000000 in
set_option maxRecDepth 20000 in
theorem X_Shares_byTies_e (d : Nat) (x1 : Int32) (x2 : Int32) (σ : Sg) : X_Shares_byTies d x1 x2 σ =
  X_Shares_byTies_5 d x1 x2 0 0 σ := (xm_it_eq [5] 5).trans rfl
set_option maxHeartbeats 8000000 in
set_option maxRecDepth 20000 in
theorem X_Shares_byTies_5_e (d : Nat) (x1 : Int32) (x2 : Int32) (x3 : Int64) (x5 : Int32) (σ : Sg) : X_Shares_byTies_5 (d + 1) x1 x2 x3 x5 σ =
  xm_br ((σ.1 9 9) ≤ x5)
    (some (some (.long x3), σ))
    (xm_ix x5 24 (fun j1 => xm_br ((σ.1 16 j1) = x2)
      (X_Shares_byTies_5 (d + 1) x1 x2 (x3 + 0) (x5 + 1) σ)
      (xm_cI (X_Shares_tells d x5 x1 σ) (fun r3 σ2 => xm_br (r3 = 0)
        (X_Shares_byTies_5 (d + 1) x1 x2 (x3 + 0) (x5 + 1) σ2)
        (xm_ix x5 24 (fun j4 => xm_dvL ((xm_imax 1 (σ2.1 12 j4)).toInt64) (X_Shares_byTies_5 (d + 1) x1 x2 (x3 + (232792560 / ((xm_imax 1 (σ2.1 12 j4)).toInt64))) (x5 + 1) σ2))))))) := (xm_it_eq [5] 39).trans rfl
noncomputable def X_Arr_fillI_c20 (d : Nat) (x1 : Int32) (σ : Sg) : Oz := xm_rn (xm_call d) 0 kc_Arr_fillI 0 [.ref 20, .int x1, .null, .null] [] σ
noncomputable def X_Arr_fillI_c20_5 (d : Nat) (x1 : Int32) (x2 : Int32) (x3 : Int32) (σ : Sg) : Oz := xm_rn (xm_call d) 0 kc_Arr_fillI 5 [.ref 20, .int x1, .int x2, .int x3] [] σ
set_option maxHeartbeats 8000000 in
set_option maxRecDepth 20000 in
theorem X_Arr_fillI_c20_e (d : Nat) (x1 : Int32) (σ : Sg) : X_Arr_fillI_c20 d x1 σ =
  X_Arr_fillI_c20_5 d x1 0 4 σ := (xm_it_eq [5] 6).trans rfl
set_option maxHeartbeats 8000000 in
set_option maxRecDepth 20000 in
theorem X_Arr_fillI_c20_5_e (d : Nat) (x1 : Int32) (x2 : Int32) (x3 : Int32) (σ : Sg) : X_Arr_fillI_c20_5 d x1 x2 x3 σ =
  xm_br (x3 ≤ x2)
    (some (none, σ))
    (xm_ix x2 4 (fun j1 => X_Arr_fillI_c20_5 d x1 (x2 + 1) x3 (xm_sI σ 20 j1 x1))) := (xm_it_eq [5] 10).trans rfl
noncomputable def X_Shares_countBringing (d : Nat)  (σ : Sg) : Oz := xm_rn (xm_call d) 0 kc_Shares_countBringing 0 [.ref 19, .null, .null] [] σ
noncomputable def X_Shares_countBringing_10 (d : Nat) (x1 : Int32) (σ : Sg) : Oz := xm_rn (xm_call d) 0 kc_Shares_countBringing 10 [.ref 19, .int x1, .null] [] σ
set_option maxHeartbeats 8000000 in
set_option maxRecDepth 20000 in
theorem X_Shares_countBringing_e (d : Nat)  (σ : Sg) : X_Shares_countBringing (d + 1) σ =
  xm_cV (X_Arr_fillI_c20 d 0 σ) (fun σ1 => X_Shares_countBringing_10 (d + 1) 0 σ1) := (xm_it_eq [10] 7).trans rfl
set_option maxHeartbeats 8000000 in
set_option maxRecDepth 20000 in
theorem X_Shares_countBringing_10_e (d : Nat) (x1 : Int32) (σ : Sg) : X_Shares_countBringing_10 (d + 1) x1 σ =
  xm_br ((σ.1 9 9) ≤ x1)
    (some (none, σ))
    (xm_ix x1 24 (fun j1 => xm_cI (X_Records_isTaken d x1 σ) (fun r3 σ2 => xm_br (r3 = 0)
      (X_Shares_countBringing_10 (d + 1) (x1 + 1) σ2)
      (xm_br ((σ.1 10 j1) = (-1))
        (X_Shares_countBringing_10 (d + 1) (x1 + 1) σ2)
        (xm_ix (σ.1 10 j1) 24 (fun j4 => xm_ix x1 24 (fun j5 => xm_ix ((2 * (σ2.1 11 j4)) + (σ2.1 11 j5)) 4 (fun j6 => xm_ix ((2 * (σ2.1 11 j4)) + (σ2.1 11 j5)) 4 (fun j7 => X_Shares_countBringing_10 (d + 1) (x1 + 1) (xm_sI σ2 20 j7 ((σ2.1 20 j6) + 1))))))))))) := (xm_it_eq [10] 42).trans rfl
noncomputable def X_Shares_pull (d : Nat) (x1 : Int32) (σ : Sg) : Oz := xm_rn (xm_call d) 2 kc_Shares_pull 0 [.ref 19, .int x1] [] σ
set_option maxHeartbeats 8000000 in
set_option maxRecDepth 20000 in
theorem X_Shares_pull_e (d : Nat) (x1 : Int32) (σ : Sg) : X_Shares_pull d x1 σ =
  xm_br (x1 = 1)
    (some (some (.long (((σ.1 20 1).toInt64) * (((σ.1 20 2) + (σ.1 20 3)).toInt64))), σ))
    (some (some (.long (((σ.1 20 2).toInt64) * (((σ.1 20 0) + (σ.1 20 1)).toInt64))), σ)) := (xm_it_eq [] 22).trans rfl
noncomputable def X_Shares_telling (d : Nat) (x1 : Int32) (σ : Sg) : Oz := xm_rn (xm_call d) 2 kc_Shares_telling 0 [.ref 19, .int x1, .null, .null, .null] [] σ
noncomputable def X_Shares_telling_5 (d : Nat) (x1 : Int32) (x2 : Int64) (x4 : Int32) (σ : Sg) : Oz := xm_rn (xm_call d) 2 kc_Shares_telling 5 [.ref 19, .int x1, .long x2, .null, .int x4] [] σ
set_option maxHeartbeats 8000000 in
set_option maxRecDepth 20000 in
theorem X_Shares_telling_e (d : Nat) (x1 : Int32) (σ : Sg) : X_Shares_telling d x1 σ =
  X_Shares_telling_5 d x1 0 0 σ := (xm_it_eq [5] 5).trans rfl
set_option maxHeartbeats 8000000 in
set_option maxRecDepth 20000 in
theorem X_Shares_telling_5_e (d : Nat) (x1 : Int32) (x2 : Int64) (x4 : Int32) (σ : Sg) : X_Shares_telling_5 (d + 1) x1 x2 x4 σ =
  xm_br ((σ.1 9 9) ≤ x4)
    (some (some (.long x2), σ))
    (xm_cI (X_Shares_tells d x4 x1 σ) (fun r2 σ1 => xm_br (r2 = 0)
      (X_Shares_telling_5 (d + 1) x1 (x2 + 0) (x4 + 1) σ1)
      (X_Shares_telling_5 (d + 1) x1 (x2 + 1) (x4 + 1) σ1))) := (xm_it_eq [5] 18).trans rfl
noncomputable def X_Shares_byBringing (d : Nat) (x1 : Int32) (σ : Sg) : Oz := xm_rn (xm_call d) 2 kc_Shares_byBringing 0 [.ref 19, .int x1] [] σ
set_option maxHeartbeats 8000000 in
set_option maxRecDepth 20000 in
theorem X_Shares_byBringing_e (d : Nat) (x1 : Int32) (σ : Sg) : X_Shares_byBringing (d + 1) x1 σ =
  xm_cV (X_Shares_countBringing d σ) (fun σ1 => xm_cL (X_Shares_pull d x1 σ1) (fun r3 σ2 => xm_cL (X_Shares_telling d (1 - x1) σ2) (fun r5 σ4 => xm_cL (X_Shares_byTies d x1 (-1) σ4) (fun r7 σ6 => some (some (.long ((r3 * r5) * r7)), σ6))))) := (xm_it_eq [] 18).trans rfl
noncomputable def X_TO_share (d : Nat) (x1 : Int32) (x2 : Int32) (σ : Sg) : Oz := xm_rn (xm_call d) 2 kc_TO_share 0 [.ref 0, .int x1, .int x2] [] σ
set_option maxHeartbeats 8000000 in
set_option maxRecDepth 20000 in
theorem X_TO_share_e (d : Nat) (x1 : Int32) (x2 : Int32) (σ : Sg) : X_TO_share (d + 1) x1 x2 σ =
  xm_cI (X_TO_isUpTo d x1 0 2 σ) (fun r2 σ1 => xm_br (r2 = 0)
    (xm_cL (X_TO_refusal d (-2) σ1) (fun r4 σ3 => some (some (.long r4), σ3)))
    (xm_cI (X_TO_isBit d x2 σ1) (fun r6 σ5 => xm_br (r6 = 0)
      (xm_cL (X_TO_refusal d (-2) σ5) (fun r26 σ25 => some (some (.long r26), σ25)))
      (xm_br (x1 = 0)
        (xm_cL (X_Shares_taken d 1 σ5) (fun r20 σ19 => xm_cL (X_Shares_taken d 0 σ19) (fun r22 σ21 => xm_cL (X_TO_part d r20 r22 x2 σ21) (fun r24 σ23 => some (some (.long r24), σ23)))))
        (xm_br (x1 = 1)
          (xm_cL (X_Shares_byTies d 1 (-1) σ5) (fun r14 σ13 => xm_cL (X_Shares_byTies d 0 (-1) σ13) (fun r16 σ15 => xm_cL (X_TO_part d r14 r16 x2 σ15) (fun r18 σ17 => some (some (.long r18), σ17)))))
          (xm_cL (X_Shares_byBringing d 1 σ5) (fun r8 σ7 => xm_cL (X_Shares_byBringing d 0 σ7) (fun r10 σ9 => xm_cL (X_TO_part d r8 r10 x2 σ9) (fun r12 σ11 => some (some (.long r12), σ11)))))))))) := (xm_it_eq [] 27).trans rfl
noncomputable def X_Shares_rounded (d : Nat) (x1 : Int32) (x2 : Int32) (σ : Sg) : Oz := xm_rn (xm_call d) 2 kc_Shares_rounded 0 [.ref 19, .int x1, .int x2, .null, .null, .null] [] σ
noncomputable def X_Shares_rounded_5 (d : Nat) (x1 : Int32) (x2 : Int32) (x3 : Int64) (x5 : Int32) (σ : Sg) : Oz := xm_rn (xm_call d) 2 kc_Shares_rounded 5 [.ref 19, .int x1, .int x2, .long x3, .null, .int x5] [] σ
set_option maxHeartbeats 8000000 in
set_option maxRecDepth 20000 in
theorem X_Shares_rounded_e (d : Nat) (x1 : Int32) (x2 : Int32) (σ : Sg) : X_Shares_rounded d x1 x2 σ =
  X_Shares_rounded_5 d x1 x2 0 0 σ := (xm_it_eq [5] 5).trans rfl
set_option maxHeartbeats 8000000 in
set_option maxRecDepth 20000 in
theorem X_Shares_rounded_5_e (d : Nat) (x1 : Int32) (x2 : Int32) (x3 : Int64) (x5 : Int32) (σ : Sg) : X_Shares_rounded_5 (d + 1) x1 x2 x3 x5 σ =
  xm_br ((σ.1 9 9) ≤ x5)
    (some (some (.long x3), σ))
    (xm_cI (X_Shares_tells d x5 x1 σ) (fun r2 σ1 => xm_br (r2 = 0)
      (X_Shares_rounded_5 (d + 1) x1 x2 (x3 + 0) (x5 + 1) σ1)
      (xm_ix x5 24 (fun j3 => xm_dvL ((xm_imax 1 ((σ1.1 12 j3) + x2)).toInt64) (X_Shares_rounded_5 (d + 1) x1 x2 (x3 + (26771144400 / ((xm_imax 1 ((σ1.1 12 j3) + x2)).toInt64))) (x5 + 1) σ1))))) := (xm_it_eq [5] 29).trans rfl
noncomputable def X_TO_bounds (d : Nat) (x1 : Int32) (x2 : Int32) (x3 : Int32) (σ : Sg) : Oz := xm_rn (xm_call d) 2 kc_TO_bounds 0 [.ref 0, .int x1, .int x2, .int x3, .null] [] σ
set_option maxHeartbeats 8000000 in
set_option maxRecDepth 20000 in
theorem X_TO_bounds_e (d : Nat) (x1 : Int32) (x2 : Int32) (x3 : Int32) (σ : Sg) : X_TO_bounds (d + 1) x1 x2 x3 σ =
  xm_cI (X_TO_isUpTo d x1 0 5 σ) (fun r2 σ1 => xm_br (r2 = 0)
    (xm_cL (X_TO_refusal d (-2) σ1) (fun r4 σ3 => some (some (.long r4), σ3)))
    (xm_cI (X_TO_isBit d x2 σ1) (fun r6 σ5 => xm_br (r6 = 0)
      (xm_cL (X_TO_refusal d (-2) σ5) (fun r8 σ7 => some (some (.long r8), σ7)))
      (xm_cI (X_TO_isBit d x3 σ5) (fun r10 σ9 => xm_br (r10 = 0)
        (xm_cL (X_TO_refusal d (-2) σ9) (fun r24 σ23 => some (some (.long r24), σ23)))
        (xm_br (x2 = 0)
          (xm_cL (X_Shares_rounded d 1 x1 σ9) (fun r18 σ17 => xm_cL (X_Shares_rounded d 0 (-x1) σ17) (fun r20 σ19 => xm_cL (X_TO_part d r18 r20 x3 σ19) (fun r22 σ21 => some (some (.long r22), σ21)))))
          (xm_cL (X_Shares_rounded d 1 (-x1) σ9) (fun r12 σ11 => xm_cL (X_Shares_rounded d 0 (-(-x1)) σ11) (fun r14 σ13 => xm_cL (X_TO_part d r12 r14 x3 σ13) (fun r16 σ15 => some (some (.long r16), σ15))))))))))) := (xm_it_eq [] 31).trans rfl
noncomputable def X_Shares_isLess (d : Nat) (x1 : Int32) (x2 : Int32) (σ : Sg) : Oz := xm_rn (xm_call d) 3 kc_Shares_isLess 0 [.ref 19, .int x1, .int x2] [] σ
set_option maxHeartbeats 8000000 in
set_option maxRecDepth 20000 in
theorem X_Shares_isLess_e (d : Nat) (x1 : Int32) (x2 : Int32) (σ : Sg) : X_Shares_isLess (d + 1) x1 x2 σ =
  xm_cL (X_Shares_byTies d 1 x1 σ) (fun r2 σ1 => xm_cL (X_Shares_byTies d 0 x2 σ1) (fun r4 σ3 => xm_cL (X_Shares_byTies d 1 x2 σ3) (fun r6 σ5 => xm_cL (X_Shares_byTies d 0 x1 σ5) (fun r8 σ7 => xm_br (0 ≤ (lg_cmp (r2 * r4) (r6 * r8)))
    (some (some (.int 0), σ7))
    (some (some (.int 1), σ7)))))) := (xm_it_eq [] 24).trans rfl
noncomputable def X_Shares_treeToLeave (d : Nat) (x1 : Int32) (σ : Sg) : Oz := xm_rn (xm_call d) 1 kc_Shares_treeToLeave 0 [.ref 19, .int x1, .null, .null, .null] [] σ
noncomputable def X_Shares_treeToLeave_4 (d : Nat) (x1 : Int32) (x2 : Int32) (x3 : Int32) (σ : Sg) : Oz := xm_rn (xm_call d) 1 kc_Shares_treeToLeave 4 [.ref 19, .int x1, .int x2, .int x3, .null] [] σ
set_option maxHeartbeats 8000000 in
set_option maxRecDepth 20000 in
theorem X_Shares_treeToLeave_e (d : Nat) (x1 : Int32) (σ : Sg) : X_Shares_treeToLeave d x1 σ =
  X_Shares_treeToLeave_4 d x1 (-1) 0 σ := (xm_it_eq [4] 5).trans rfl
set_option maxHeartbeats 8000000 in
set_option maxRecDepth 20000 in
theorem X_Shares_treeToLeave_4_e (d : Nat) (x1 : Int32) (x2 : Int32) (x3 : Int32) (σ : Sg) : X_Shares_treeToLeave_4 (d + 1) x1 x2 x3 σ =
  xm_br ((σ.1 9 9) ≤ x3)
    (some (some (.int x2), σ))
    (xm_ix x3 24 (fun j1 => xm_br ((σ.1 18 j1) = 0)
      (X_Shares_treeToLeave_4 (d + 1) x1 x2 (x3 + 1) σ)
      (xm_ix x3 24 (fun j2 => xm_br ((σ.1 16 j2) = x3)
        (xm_cL (X_Shares_byTies d 0 x3 σ) (fun r4 σ3 => xm_cL (X_Shares_byTies d 1 x3 σ3) (fun r6 σ5 => xm_br ((lg_cmp (r4 + r6) 0) = 0)
          (X_Shares_treeToLeave_4 (d + 1) x1 x2 (x3 + 1) σ5)
          (xm_br (x2 = (-1))
            (X_Shares_treeToLeave_4 (d + 1) x1 x3 (x3 + 1) σ5)
            (xm_br (x1 = 0)
              (xm_cI (X_Shares_isLess d x3 x2 σ5) (fun r10 σ9 => xm_br (r10 = 0)
                (X_Shares_treeToLeave_4 (d + 1) x1 x2 (x3 + 1) σ9)
                (X_Shares_treeToLeave_4 (d + 1) x1 x3 (x3 + 1) σ9)))
              (xm_cI (X_Shares_isLess d x2 x3 σ5) (fun r8 σ7 => xm_br (r8 = 0)
                (X_Shares_treeToLeave_4 (d + 1) x1 x2 (x3 + 1) σ7)
                (X_Shares_treeToLeave_4 (d + 1) x1 x3 (x3 + 1) σ7))))))))
        (X_Shares_treeToLeave_4 (d + 1) x1 x2 (x3 + 1) σ))))) := (xm_it_eq [4] 51).trans rfl
