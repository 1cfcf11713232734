noncomputable def X_Mod_set (d : Nat) (x1 : Int32) (x2 : Int32) (σ : Sg) : Oz := xm_rn (xm_call d) 1 kc_Mod_set 0 [.ref 39, .int x1, .int x2, .null, .null] [] σ
noncomputable def X_Mod_set_78 (d : Nat) (x1 : Int32) (x2 : Int32) (s0 : Int32) (σ : Sg) : Oz := xm_rn (xm_call d) 1 kc_Mod_set 78 [.ref 39, .int x1, .int x2, .null, .null] [.int s0] σ
noncomputable def X_Mod_set_125 (d : Nat) (x1 : Int32) (x2 : Int32) (s0 : Int32) (σ : Sg) : Oz := xm_rn (xm_call d) 1 kc_Mod_set 125 [.ref 39, .int x1, .int x2, .null, .null] [.int s0] σ
noncomputable def X_Mod_set_170 (d : Nat) (x4 : Int32) (σ : Sg) : Oz := xm_rn (xm_call d) 1 kc_Mod_set 170 [.null, .null, .null, .null, .int x4] [] σ
set_option maxHeartbeats 8000000 in
set_option maxRecDepth 20000 in
theorem X_Mod_set_e (d : Nat) (x1 : Int32) (x2 : Int32) (σ : Sg) : X_Mod_set (d + 1) x1 x2 σ =
  xm_br (x1 = 0)
    (xm_cI (X_Mod_in d x2.toInt64 (-1) (((σ.1 39 5) - 1).toInt64) σ) (fun r8 σ7 => X_Mod_set_78 (d + 1) x1 x2 r8 σ7))
    (xm_br (x1 = 1)
      (xm_cI (X_Mod_in d x2.toInt64 1 7 σ) (fun r6 σ5 => X_Mod_set_78 (d + 1) x1 x2 r6 σ5))
      (xm_br (x1 = 2)
        (xm_cI (X_Mod_in d x2.toInt64 0 99 σ) (fun r4 σ3 => X_Mod_set_78 (d + 1) x1 x2 r4 σ3))
        (xm_br (x1 = 3)
          (xm_cI (X_Mod_in d x2.toInt64 0 9 σ) (fun r2 σ1 => xm_br (r2 = 0)
            (X_Mod_set_78 (d + 1) x1 x2 0 σ1)
            (X_Mod_set_78 (d + 1) x1 x2 1 σ1)))
          (X_Mod_set_78 (d + 1) x1 x2 0 σ)))) := (xm_it_eq [78, 125, 170] 20).trans rfl
set_option maxHeartbeats 8000000 in
set_option maxRecDepth 20000 in
theorem X_Mod_set_78_e (d : Nat) (x1 : Int32) (x2 : Int32) (s0 : Int32) (σ : Sg) : X_Mod_set_78 d x1 x2 s0 σ =
  xm_br (s0 = 0)
    (some (some (.int (-5)), σ))
    (xm_br (x1 = 0)
      (X_Mod_set_125 d x1 x2 (σ.1 39 8) σ)
      (xm_br (x1 = 1)
        (X_Mod_set_125 d x1 x2 (σ.1 39 9) σ)
        (xm_br (x1 = 2)
          (X_Mod_set_125 d x1 x2 (σ.1 39 10) σ)
          (X_Mod_set_125 d x1 x2 (σ.1 39 11) σ)))) := (xm_it_eq [78, 125, 170] 15).trans rfl
set_option maxHeartbeats 8000000 in
set_option maxRecDepth 20000 in
theorem X_Mod_set_125_e (d : Nat) (x1 : Int32) (x2 : Int32) (s0 : Int32) (σ : Sg) : X_Mod_set_125 d x1 x2 s0 σ =
  xm_br (x1 = 0)
    (X_Mod_set_170 d s0 (xm_sI σ 39 8 x2))
    (xm_br (x1 = 1)
      (X_Mod_set_170 d s0 (xm_sI σ 39 9 x2))
      (xm_br (x1 = 2)
        (X_Mod_set_170 d s0 (xm_sI σ 39 10 x2))
        (X_Mod_set_170 d s0 (xm_sI σ 39 11 x2)))) := (xm_it_eq [78, 125, 170] 14).trans rfl
set_option maxHeartbeats 8000000 in
set_option maxRecDepth 20000 in
theorem X_Mod_set_170_e (d : Nat) (x4 : Int32) (σ : Sg) : X_Mod_set_170 d x4 σ =
  some (some (.int x4), σ) := (xm_it_eq [78, 125, 170] 3).trans rfl
noncomputable def X_Mod_no (d : Nat) (x0 : Int32) (σ : Sg) : Oz := xm_rn (xm_call d) 2 kc_Mod_no 0 [.int x0] [] σ
set_option maxHeartbeats 8000000 in
set_option maxRecDepth 20000 in
theorem X_Mod_no_e (d : Nat) (x0 : Int32) (σ : Sg) : X_Mod_no d x0 σ =
  some (some (.long ((-9223372036854775808) - x0.toInt64)), σ) := (xm_it_eq [] 6).trans rfl
noncomputable def X_Mod_countsBy (d : Nat) (x1 : Int32) (σ : Sg) : Oz := xm_rn (xm_call d) 2 kc_Mod_countsBy 0 [.ref 39, .int x1] [] σ
set_option maxHeartbeats 8000000 in
set_option maxRecDepth 20000 in
theorem X_Mod_countsBy_e (d : Nat) (x1 : Int32) (σ : Sg) : X_Mod_countsBy (d + 1) x1 σ =
  xm_cI (X_Mod_degree d x1 σ) (fun r2 σ1 => xm_br (r2 = 0)
    (some (some (.long 840), σ1))
    (xm_cI (X_Mod_degree d x1 σ1) (fun r4 σ3 => xm_dvL r4.toInt64 (some (some (.long (840 / r4.toInt64)), σ3))))) := (xm_it_eq [] 12).trans rfl
noncomputable def X_Mod_kindOnes (d : Nat)  (σ : Sg) : Oz := xm_rn (xm_call d) 1 kc_Mod_kindOnes 0 [.ref 39, .null, .null] [] σ
noncomputable def X_Mod_kindOnes_4 (d : Nat) (x1 : Int32) (x2 : Int32) (σ : Sg) : Oz := xm_rn (xm_call d) 1 kc_Mod_kindOnes 4 [.ref 39, .int x1, .int x2] [] σ
set_option maxHeartbeats 8000000 in
set_option maxRecDepth 20000 in
theorem X_Mod_kindOnes_e (d : Nat)  (σ : Sg) : X_Mod_kindOnes d σ =
  X_Mod_kindOnes_4 d 0 0 σ := (xm_it_eq [4] 5).trans rfl
set_option maxHeartbeats 8000000 in
set_option maxRecDepth 20000 in
theorem X_Mod_kindOnes_4_e (d : Nat) (x1 : Int32) (x2 : Int32) (σ : Sg) : X_Mod_kindOnes_4 d x1 x2 σ =
  xm_br ((σ.1 39 5) ≤ x2)
    (some (some (.int x1), σ))
    (xm_ix x2 9 (fun j1 => X_Mod_kindOnes_4 d (x1 + (σ.1 45 j1)) (x2 + 1) σ)) := (xm_it_eq [4] 14).trans rfl
noncomputable def X_Mod_takes (d : Nat) (x1 : Int32) (x2 : Int64) (σ : Sg) : Oz := xm_rn (xm_call d) 0 kc_Mod_takes 0 [.ref 39, .int x1, .long x2, .null, .null, .null, .null, .null, .null, .null, .null, .null] [] σ
noncomputable def X_Mod_takes_12 (d : Nat) (x1 : Int32) (x2 : Int64) (x4 : Int32) (x5 : Int64) (x7 : Int64) (x9 : Int32) (σ : Sg) : Oz := xm_rn (xm_call d) 0 kc_Mod_takes 12 [.ref 39, .int x1, .long x2, .null, .int x4, .long x5, .null, .long x7, .null, .int x9, .null, .null] [] σ
noncomputable def X_Mod_takes_90 (d : Nat) (x1 : Int32) (x2 : Int64) (x4 : Int32) (x5 : Int64) (x7 : Int64) (x9 : Int32) (x10 : Int32) (x11 : Int32) (σ : Sg) : Oz := xm_rn (xm_call d) 0 kc_Mod_takes 90 [.ref 39, .int x1, .long x2, .null, .int x4, .long x5, .null, .long x7, .null, .int x9, .int x10, .int x11] [] σ
set_option maxHeartbeats 8000000 in
set_option maxRecDepth 20000 in
theorem X_Mod_takes_e (d : Nat) (x1 : Int32) (x2 : Int64) (σ : Sg) : X_Mod_takes d x1 x2 σ =
  X_Mod_takes_12 d x1 x2 0 0 0 0 σ := (xm_it_eq [12, 90] 9).trans rfl
set_option maxHeartbeats 8000000 in
set_option maxRecDepth 20000 in
theorem X_Mod_takes_12_e (d : Nat) (x1 : Int32) (x2 : Int64) (x4 : Int32) (x5 : Int64) (x7 : Int64) (x9 : Int32) (σ : Sg) : X_Mod_takes_12 (d + 1) x1 x2 x4 x5 x7 x9 σ =
  xm_br (x1 ≤ x9)
    (xm_ix x1 8 (fun j1 => xm_ix x1 8 (fun j2 => xm_ix x4 8 (fun j3 => xm_ix x4 8 (fun j4 => xm_cI (X_Mod_kindOnes d (xm_sL (xm_sL σ 52 j2 ((σ.2 52 j1) + x2)) 53 j4 ((σ.2 53 j3) + x2))) (fun r6 σ5 => xm_br (0 ≤ (lg_cmp ((x7 * ((σ.1 39 5).toInt64)) - (r6.toInt64 * x5)) 0))
      (xm_br (0 < (lg_cmp (100 * ((x7 * ((σ.1 39 5).toInt64)) - (r6.toInt64 * x5))) ((((σ5.1 39 23).toInt64) * x5) * ((σ5.1 39 5).toInt64))))
        (some (none, (xm_sL σ5 39 22 ((σ5.2 39 22) + 0))))
        (some (none, (xm_sL σ5 39 22 ((σ5.2 39 22) + x2)))))
      (xm_br (0 < (lg_cmp (100 * (-((x7 * ((σ.1 39 5).toInt64)) - (r6.toInt64 * x5)))) ((((σ5.1 39 23).toInt64) * x5) * ((σ5.1 39 5).toInt64))))
        (some (none, (xm_sL σ5 39 22 ((σ5.2 39 22) + 0))))
        (some (none, (xm_sL σ5 39 22 ((σ5.2 39 22) + x2)))))))))))
    (xm_ix x9 7 (fun j7 => xm_ix (σ.1 46 j7) 9 (fun j8 => xm_cL (X_Mod_countsBy d (σ.1 46 j7) σ) (fun r10 σ9 => xm_ix (σ.1 46 j7) 9 (fun j11 => xm_br ((σ9.1 45 j11) = 1)
      (xm_cL (X_Mod_countsBy d (σ.1 46 j7) σ9) (fun r15 σ14 => xm_ix (σ.1 46 j7) 9 (fun j16 => xm_ix (σ.1 46 j7) 9 (fun j17 => X_Mod_takes_90 (d + 1) x1 x2 (x4 + (σ.1 45 j8)) (x5 + r10) (x7 + r15) x9 (σ.1 46 j7) 0 (xm_sL σ14 50 j17 ((σ14.2 50 j16) + x2))))))
      (xm_ix (σ.1 46 j7) 9 (fun j12 => xm_ix (σ.1 46 j7) 9 (fun j13 => X_Mod_takes_90 (d + 1) x1 x2 (x4 + (σ.1 45 j8)) (x5 + r10) (x7 + 0) x9 (σ.1 46 j7) 0 (xm_sL σ9 50 j13 ((σ9.2 50 j12) + x2)))))))))) := (xm_it_eq [12, 90] 60).trans rfl
set_option maxHeartbeats 8000000 in
set_option maxRecDepth 20000 in
theorem X_Mod_takes_90_e (d : Nat) (x1 : Int32) (x2 : Int64) (x4 : Int32) (x5 : Int64) (x7 : Int64) (x9 : Int32) (x10 : Int32) (x11 : Int32) (σ : Sg) : X_Mod_takes_90 d x1 x2 x4 x5 x7 x9 x10 x11 σ =
  xm_br (x1 ≤ x11)
    (X_Mod_takes_12 d x1 x2 x4 x5 x7 (x9 + 1) σ)
    (xm_ix x11 7 (fun j1 => xm_ix ((9 * x10) + (σ.1 46 j1)) 81 (fun j2 => xm_ix ((9 * x10) + (σ.1 46 j1)) 81 (fun j3 => X_Mod_takes_90 d x1 x2 x4 x5 x7 x9 x10 (x11 + 1) (xm_sL σ 51 j3 ((σ.2 51 j2) + x2)))))) := (xm_it_eq [12, 90] 21).trans rfl
noncomputable def X_Mod_stands (d : Nat) (x1 : Int32) (σ : Sg) : Oz := xm_rn (xm_call d) 0 kc_Mod_stands 0 [.ref 39, .int x1, .null, .null] [] σ
set_option maxHeartbeats 8000000 in
set_option maxRecDepth 20000 in
theorem X_Mod_stands_e (d : Nat) (x1 : Int32) (σ : Sg) : X_Mod_stands (d + 1) x1 σ =
  xm_ix x1 7 (fun j1 => xm_br ((σ.1 39 9) ≤ (x1 + 1))
    (xm_ix x1 7 (fun j2 => xm_ix x1 7 (fun j3 => xm_cI (X_Mod_bitsOf d (((xm_sI (xm_sI σ 39 16 ((σ.1 39 16) ||| ((1 : Int32) <<< ((σ.1 46 j1) &&& 31)))) 47 j2 0)).1 47 j3) (xm_sI (xm_sI σ 39 16 ((σ.1 39 16) ||| ((1 : Int32) <<< ((σ.1 46 j1) &&& 31)))) 47 j2 0)) (fun r5 σ4 => xm_br (r5 = 0)
      (xm_ix x1 7 (fun j8 => xm_cV (X_Mod_takes d (x1 + 1) (σ4.2 48 j8) σ4) (fun σ9 => some (none, σ9))))
      (xm_ix x1 7 (fun j6 => xm_dvL r5.toInt64 (xm_ix x1 7 (fun j7 => some (none, (xm_sL σ4 49 j7 ((σ4.2 48 j6) / r5.toInt64)))))))))))
    (xm_ix (σ.1 46 j1) 9 (fun j10 => xm_ix x1 7 (fun j11 => xm_ix x1 7 (fun j12 => xm_cI (X_Mod_bitsOf d (((xm_sI (xm_sI σ 39 16 ((σ.1 39 16) ||| ((1 : Int32) <<< ((σ.1 46 j1) &&& 31)))) 47 j11 ((σ.1 44 j10) &&& (((σ.1 39 16) ||| ((1 : Int32) <<< ((σ.1 46 j1) &&& 31))) ^^^ (-1))))).1 47 j12) (xm_sI (xm_sI σ 39 16 ((σ.1 39 16) ||| ((1 : Int32) <<< ((σ.1 46 j1) &&& 31)))) 47 j11 ((σ.1 44 j10) &&& (((σ.1 39 16) ||| ((1 : Int32) <<< ((σ.1 46 j1) &&& 31))) ^^^ (-1))))) (fun r14 σ13 => xm_br (r14 = 0)
      (xm_ix x1 7 (fun j17 => xm_cV (X_Mod_takes d (x1 + 1) (σ13.2 48 j17) σ13) (fun σ18 => some (none, σ18))))
      (xm_ix x1 7 (fun j15 => xm_dvL r14.toInt64 (xm_ix x1 7 (fun j16 => some (none, (xm_sL σ13 49 j16 ((σ13.2 48 j15) / r14.toInt64))))))))))))) := (xm_it_eq [] 54).trans rfl
noncomputable def X_Mod_lowest (d : Nat) (x0 : Int32) (σ : Sg) : Oz := xm_rn (xm_call d) 1 kc_Mod_lowest 0 [.int x0, .null] [] σ
noncomputable def X_Mod_lowest_2 (d : Nat) (x0 : Int32) (x1 : Int32) (σ : Sg) : Oz := xm_rn (xm_call d) 1 kc_Mod_lowest 2 [.int x0, .int x1] [] σ
set_option maxHeartbeats 8000000 in
set_option maxRecDepth 20000 in
theorem X_Mod_lowest_e (d : Nat) (x0 : Int32) (σ : Sg) : X_Mod_lowest d x0 σ =
  X_Mod_lowest_2 d x0 0 σ := (xm_it_eq [2] 3).trans rfl
set_option maxHeartbeats 8000000 in
set_option maxRecDepth 20000 in
theorem X_Mod_lowest_2_e (d : Nat) (x0 : Int32) (x1 : Int32) (σ : Sg) : X_Mod_lowest_2 d x0 x1 σ =
  xm_br (((x0 >>> (x1 &&& 31)) &&& 1) = 0)
    (X_Mod_lowest_2 d x0 (x1 + 1) σ)
    (some (some (.int x1), σ)) := (xm_it_eq [2] 9).trans rfl
noncomputable def X_Mod_goesThrough (d : Nat) (x1 : Int32) (σ : Sg) : Oz := xm_rn (xm_call d) 0 kc_Mod_goesThrough 0 [.ref 39, .int x1, .null, .null, .null] [] σ
noncomputable def X_Mod_goesThrough_12 (d : Nat) (x2 : Int32) (σ : Sg) : Oz := xm_rn (xm_call d) 0 kc_Mod_goesThrough 12 [.ref 39, .null, .int x2, .null, .null] [] σ
noncomputable def X_Mod_goesThrough_33 (d : Nat) (x2 : Int32) (σ : Sg) : Oz := xm_rn (xm_call d) 0 kc_Mod_goesThrough 33 [.ref 39, .null, .int x2, .null, .null] [] σ
noncomputable def X_Mod_goesThrough_54 (d : Nat) (x2 : Int32) (σ : Sg) : Oz := xm_rn (xm_call d) 0 kc_Mod_goesThrough 54 [.ref 39, .null, .int x2, .null, .null] [] σ
noncomputable def X_Mod_goesThrough_109 (d : Nat) (x2 : Int32) (σ : Sg) : Oz := xm_rn (xm_call d) 0 kc_Mod_goesThrough 109 [.ref 39, .null, .int x2, .null, .null] [] σ
noncomputable def X_Mod_goesThrough_161 (d : Nat) (x2 : Int32) (x3 : Int32) (σ : Sg) : Oz := xm_rn (xm_call d) 0 kc_Mod_goesThrough 161 [.ref 39, .null, .int x2, .int x3, .null] [] σ
set_option maxHeartbeats 8000000 in
set_option maxRecDepth 20000 in
theorem X_Mod_goesThrough_e (d : Nat) (x1 : Int32) (σ : Sg) : X_Mod_goesThrough d x1 σ =
  X_Mod_goesThrough_12 d 0 (xm_sL (xm_sI σ 39 23 x1) 39 22 0) := (xm_it_eq [12, 33, 54, 109, 161] 9).trans rfl
set_option maxHeartbeats 8000000 in
set_option maxRecDepth 20000 in
theorem X_Mod_goesThrough_12_e (d : Nat) (x2 : Int32) (σ : Sg) : X_Mod_goesThrough_12 d x2 σ =
  xm_br (9 ≤ x2)
    (X_Mod_goesThrough_33 d 0 σ)
    (xm_ix x2 9 (fun j1 => X_Mod_goesThrough_12 d (x2 + 1) (xm_sL σ 50 j1 0))) := (xm_it_eq [12, 33, 54, 109, 161] 11).trans rfl
set_option maxHeartbeats 8000000 in
set_option maxRecDepth 20000 in
theorem X_Mod_goesThrough_33_e (d : Nat) (x2 : Int32) (σ : Sg) : X_Mod_goesThrough_33 d x2 σ =
  xm_br (81 ≤ x2)
    (X_Mod_goesThrough_54 d 0 σ)
    (xm_ix x2 81 (fun j1 => X_Mod_goesThrough_33 d (x2 + 1) (xm_sL σ 51 j1 0))) := (xm_it_eq [12, 33, 54, 109, 161] 11).trans rfl
set_option maxHeartbeats 8000000 in
set_option maxRecDepth 20000 in
theorem X_Mod_goesThrough_54_e (d : Nat) (x2 : Int32) (σ : Sg) : X_Mod_goesThrough_54 d x2 σ =
  xm_br (8 ≤ x2)
    (xm_br ((σ.1 39 8) = (-1))
      (X_Mod_goesThrough_109 d 0 (xm_sL σ 39 17 (((σ.1 39 5).toInt64) * 351298031616000000)))
      (X_Mod_goesThrough_109 d 0 (xm_sL σ 39 17 351298031616000000)))
    (xm_ix x2 8 (fun j1 => xm_ix x2 8 (fun j2 => X_Mod_goesThrough_54 d (x2 + 1) (xm_sL (xm_sL σ 52 j1 0) 53 j2 0)))) := (xm_it_eq [12, 33, 54, 109, 161] 18).trans rfl
set_option maxHeartbeats 8000000 in
set_option maxRecDepth 20000 in
theorem X_Mod_goesThrough_109_e (d : Nat) (x2 : Int32) (σ : Sg) : X_Mod_goesThrough_109 (d + 1) x2 σ =
  xm_br ((σ.1 39 5) ≤ x2)
    (some (none, σ))
    (xm_br ((σ.1 39 8) = (-1))
      (xm_cV (X_Mod_stands d 0 (xm_sL (xm_sI (xm_sI σ 39 16 0) 46 0 x2) 48 0 351298031616000000)) (fun σ1 => X_Mod_goesThrough_161 (d + 1) x2 0 σ1))
      (xm_br ((σ.1 39 8) = x2)
        (xm_cV (X_Mod_stands d 0 (xm_sL (xm_sI (xm_sI σ 39 16 0) 46 0 x2) 48 0 351298031616000000)) (fun σ2 => X_Mod_goesThrough_161 (d + 1) x2 0 σ2))
        (X_Mod_goesThrough_109 (d + 1) (x2 + 1) σ))) := (xm_it_eq [12, 33, 54, 109, 161] 31).trans rfl
set_option maxHeartbeats 8000000 in
set_option maxRecDepth 20000 in
theorem X_Mod_goesThrough_161_e (d : Nat) (x2 : Int32) (x3 : Int32) (σ : Sg) : X_Mod_goesThrough_161 (d + 1) x2 x3 σ =
  xm_br (x3 < 0)
    (X_Mod_goesThrough_109 (d + 1) (x2 + 1) σ)
    (xm_ix x3 7 (fun j1 => xm_br ((σ.1 47 j1) = 0)
      (xm_ix x3 7 (fun j12 => X_Mod_goesThrough_161 (d + 1) x2 (x3 + (-1)) (xm_sI σ 39 16 ((σ.1 39 16) &&& (((1 : Int32) <<< ((σ.1 46 j12) &&& 31)) ^^^ (-1))))))
      (xm_ix x3 7 (fun j2 => xm_cI (X_Mod_lowest d (σ.1 47 j2) σ) (fun r4 σ3 => xm_ix x3 7 (fun j5 => xm_ix x3 7 (fun j6 => xm_ix x3 7 (fun j7 => xm_ix (x3 + 1) 7 (fun j8 => xm_ix ((x3 + 1) - 1) 7 (fun j9 => xm_ix (x3 + 1) 7 (fun j10 => xm_cV (X_Mod_stands d (x3 + 1) (xm_sL (xm_sI (xm_sI σ3 47 j7 ((σ3.1 47 j5) &&& ((σ3.1 47 j6) - 1))) 46 j8 r4) 48 j10 (σ3.2 49 j9))) (fun σ11 => X_Mod_goesThrough_161 (d + 1) x2 (x3 + 1) σ11)))))))))))) := (xm_it_eq [12, 33, 54, 109, 161] 47).trans rfl
noncomputable def X_Mod_divisor (d : Nat) (x0 : Int64) (x2 : Int64) (σ : Sg) : Oz := xm_rn (xm_call d) 2 kc_Mod_divisor 0 [.long x0, .null, .long x2, .null, .null, .null, .null, .null, .null, .null] [] σ
noncomputable def X_Mod_divisor_6 (d : Nat) (x4 : Int64) (x6 : Int64) (σ : Sg) : Oz := xm_rn (xm_call d) 2 kc_Mod_divisor 6 [.null, .null, .null, .null, .long x4, .null, .long x6, .null, .null, .null] [] σ
set_option maxHeartbeats 8000000 in
set_option maxRecDepth 20000 in
theorem X_Mod_divisor_e (d : Nat) (x0 : Int64) (x2 : Int64) (σ : Sg) : X_Mod_divisor d x0 x2 σ =
  X_Mod_divisor_6 d x0 x2 σ := (xm_it_eq [6] 5).trans rfl
set_option maxHeartbeats 8000000 in
set_option maxRecDepth 20000 in
theorem X_Mod_divisor_6_e (d : Nat) (x4 : Int64) (x6 : Int64) (σ : Sg) : X_Mod_divisor_6 d x4 x6 σ =
  xm_br ((lg_cmp x6 0) = 0)
    (some (some (.long x4), σ))
    (xm_dvL x6 (X_Mod_divisor_6 d x6 (x4 - x4 / x6 * x6) σ)) := (xm_it_eq [6] 14).trans rfl
noncomputable def X_Mod_part (d : Nat) (x0 : Int64) (x2 : Int64) (x4 : Int32) (σ : Sg) : Oz := xm_rn (xm_call d) 2 kc_Mod_part 0 [.long x0, .null, .long x2, .null, .int x4] [] σ
set_option maxHeartbeats 8000000 in
set_option maxRecDepth 20000 in
theorem X_Mod_part_e (d : Nat) (x0 : Int64) (x2 : Int64) (x4 : Int32) (σ : Sg) : X_Mod_part (d + 1) x0 x2 x4 σ =
  xm_br (x4 = 0)
    (xm_cL (X_Mod_divisor d x0 x2 σ) (fun r4 σ3 => xm_dvL r4 (some (some (.long (x0 / r4)), σ3))))
    (xm_cL (X_Mod_divisor d x0 x2 σ) (fun r2 σ1 => xm_dvL r2 (some (some (.long (x2 / r2)), σ1)))) := (xm_it_eq [] 10).trans rfl
noncomputable def X_Mod_found (d : Nat) (x1 : Int32) (x2 : Int32) (σ : Sg) : Oz := xm_rn (xm_call d) 2 kc_Mod_found 0 [.ref 39, .int x1, .int x2] [] σ
set_option maxHeartbeats 8000000 in
set_option maxRecDepth 20000 in
theorem X_Mod_found_e (d : Nat) (x1 : Int32) (x2 : Int32) (σ : Sg) : X_Mod_found (d + 1) x1 x2 σ =
  xm_cI (X_Mod_isPerson d x1 σ) (fun r2 σ1 => xm_br (r2 = 0)
    (xm_cL (X_Mod_no d (-2) σ1) (fun r4 σ3 => some (some (.long r4), σ3)))
    (xm_cI (X_Mod_isTwo d x2 σ1) (fun r6 σ5 => xm_br (r6 = 0)
      (xm_cL (X_Mod_no d (-2) σ5) (fun r12 σ11 => some (some (.long r12), σ11)))
      (xm_cV (X_Mod_goesThrough d 0 σ5) (fun σ7 => xm_ix x1 9 (fun j8 => xm_cL (X_Mod_part d (σ7.2 50 j8) (σ7.2 39 17) x2 σ7) (fun r10 σ9 => some (some (.long r10), σ9)))))))) := (xm_it_eq [] 20).trans rfl
noncomputable def X_Mod_both (d : Nat) (x1 : Int32) (x2 : Int32) (x3 : Int32) (σ : Sg) : Oz := xm_rn (xm_call d) 2 kc_Mod_both 0 [.ref 39, .int x1, .int x2, .int x3] [] σ
set_option maxHeartbeats 8000000 in
set_option maxRecDepth 20000 in
theorem X_Mod_both_e (d : Nat) (x1 : Int32) (x2 : Int32) (x3 : Int32) (σ : Sg) : X_Mod_both (d + 1) x1 x2 x3 σ =
  xm_cI (X_Mod_isPerson d x1 σ) (fun r2 σ1 => xm_br (r2 = 0)
    (xm_cL (X_Mod_no d (-2) σ1) (fun r4 σ3 => some (some (.long r4), σ3)))
    (xm_cI (X_Mod_isPerson d x2 σ1) (fun r6 σ5 => xm_br (r6 = 0)
      (xm_cL (X_Mod_no d (-2) σ5) (fun r8 σ7 => some (some (.long r8), σ7)))
      (xm_cI (X_Mod_isTwo d x3 σ5) (fun r10 σ9 => xm_br (r10 = 0)
        (xm_cL (X_Mod_no d (-2) σ9) (fun r16 σ15 => some (some (.long r16), σ15)))
        (xm_cV (X_Mod_goesThrough d 0 σ9) (fun σ11 => xm_ix ((9 * x1) + x2) 81 (fun j12 => xm_cL (X_Mod_part d (σ11.2 51 j12) (σ11.2 39 17) x3 σ11) (fun r14 σ13 => some (some (.long r14), σ13)))))))))) := (xm_it_eq [] 28).trans rfl
noncomputable def X_Mod_size (d : Nat) (x1 : Int32) (x2 : Int32) (σ : Sg) : Oz := xm_rn (xm_call d) 2 kc_Mod_size 0 [.ref 39, .int x1, .int x2] [] σ
set_option maxHeartbeats 8000000 in
set_option maxRecDepth 20000 in
theorem X_Mod_size_e (d : Nat) (x1 : Int32) (x2 : Int32) (σ : Sg) : X_Mod_size (d + 1) x1 x2 σ =
  xm_cI (X_Mod_in d x1.toInt64 1 7 σ) (fun r2 σ1 => xm_br (r2 = 0)
    (xm_cL (X_Mod_no d (-2) σ1) (fun r4 σ3 => some (some (.long r4), σ3)))
    (xm_cI (X_Mod_isTwo d x2 σ1) (fun r6 σ5 => xm_br (r6 = 0)
      (xm_cL (X_Mod_no d (-2) σ5) (fun r12 σ11 => some (some (.long r12), σ11)))
      (xm_cV (X_Mod_goesThrough d 0 σ5) (fun σ7 => xm_ix x1 8 (fun j8 => xm_cL (X_Mod_part d (σ7.2 52 j8) (σ7.2 39 17) x2 σ7) (fun r10 σ9 => some (some (.long r10), σ9)))))))) := (xm_it_eq [] 22).trans rfl
noncomputable def X_Mod_kinds (d : Nat) (x1 : Int32) (x2 : Int32) (σ : Sg) : Oz := xm_rn (xm_call d) 2 kc_Mod_kinds 0 [.ref 39, .int x1, .int x2] [] σ
set_option maxHeartbeats 8000000 in
set_option maxRecDepth 20000 in
theorem X_Mod_kinds_e (d : Nat) (x1 : Int32) (x2 : Int32) (σ : Sg) : X_Mod_kinds (d + 1) x1 x2 σ =
  xm_cI (X_Mod_in d x1.toInt64 0 7 σ) (fun r2 σ1 => xm_br (r2 = 0)
    (xm_cL (X_Mod_no d (-2) σ1) (fun r4 σ3 => some (some (.long r4), σ3)))
    (xm_cI (X_Mod_isTwo d x2 σ1) (fun r6 σ5 => xm_br (r6 = 0)
      (xm_cL (X_Mod_no d (-2) σ5) (fun r12 σ11 => some (some (.long r12), σ11)))
      (xm_cV (X_Mod_goesThrough d 0 σ5) (fun σ7 => xm_ix x1 8 (fun j8 => xm_cL (X_Mod_part d (σ7.2 53 j8) (σ7.2 39 17) x2 σ7) (fun r10 σ9 => some (some (.long r10), σ9)))))))) := (xm_it_eq [] 22).trans rfl
noncomputable def X_Mod_within (d : Nat) (x1 : Int32) (x2 : Int32) (σ : Sg) : Oz := xm_rn (xm_call d) 2 kc_Mod_within 0 [.ref 39, .int x1, .int x2] [] σ
set_option maxHeartbeats 8000000 in
set_option maxRecDepth 20000 in
theorem X_Mod_within_e (d : Nat) (x1 : Int32) (x2 : Int32) (σ : Sg) : X_Mod_within (d + 1) x1 x2 σ =
  xm_cI (X_Mod_in d x1.toInt64 0 100 σ) (fun r2 σ1 => xm_br (r2 = 0)
    (xm_cL (X_Mod_no d (-2) σ1) (fun r4 σ3 => some (some (.long r4), σ3)))
    (xm_cI (X_Mod_isTwo d x2 σ1) (fun r6 σ5 => xm_br (r6 = 0)
      (xm_cL (X_Mod_no d (-2) σ5) (fun r11 σ10 => some (some (.long r11), σ10)))
      (xm_cV (X_Mod_goesThrough d x1 σ5) (fun σ7 => xm_cL (X_Mod_part d (σ7.2 39 22) (σ7.2 39 17) x2 σ7) (fun r9 σ8 => some (some (.long r9), σ8))))))) := (xm_it_eq [] 20).trans rfl
noncomputable def X_Mod_walks (d : Nat) (x1 : Int32) (σ : Sg) : Oz := xm_rn (xm_call d) 2 kc_Mod_walks 0 [.ref 39, .int x1, .null, .null, .null, .null, .null] [] σ
noncomputable def X_Mod_walks_21 (d : Nat) (x1 : Int32) (x2 : Int64) (x4 : Int32) (σ : Sg) : Oz := xm_rn (xm_call d) 2 kc_Mod_walks 21 [.ref 39, .int x1, .long x2, .null, .int x4, .null, .null] [] σ
noncomputable def X_Mod_walks_68 (d : Nat) (x1 : Int32) (x2 : Int64) (x4 : Int32) (σ : Sg) : Oz := xm_rn (xm_call d) 2 kc_Mod_walks 68 [.ref 39, .int x1, .long x2, .null, .int x4, .null, .null] [] σ
noncomputable def X_Mod_walks_77 (d : Nat) (x1 : Int32) (x2 : Int64) (x4 : Int32) (x5 : Int32) (σ : Sg) : Oz := xm_rn (xm_call d) 2 kc_Mod_walks 77 [.ref 39, .int x1, .long x2, .null, .int x4, .int x5, .null] [] σ
noncomputable def X_Mod_walks_126 (d : Nat) (x1 : Int32) (x2 : Int64) (x4 : Int32) (x5 : Int32) (σ : Sg) : Oz := xm_rn (xm_call d) 2 kc_Mod_walks 126 [.ref 39, .int x1, .long x2, .null, .int x4, .int x5, .null] [] σ
noncomputable def X_Mod_walks_138 (d : Nat) (x1 : Int32) (x2 : Int64) (x4 : Int32) (x5 : Int32) (x6 : Int32) (σ : Sg) : Oz := xm_rn (xm_call d) 2 kc_Mod_walks 138 [.ref 39, .int x1, .long x2, .null, .int x4, .int x5, .int x6] [] σ
noncomputable def X_Mod_walks_211 (d : Nat) (x1 : Int32) (x2 : Int64) (x4 : Int32) (x5 : Int32) (σ : Sg) : Oz := xm_rn (xm_call d) 2 kc_Mod_walks 211 [.ref 39, .int x1, .long x2, .null, .int x4, .int x5, .null] [] σ
set_option maxHeartbeats 8000000 in
set_option maxRecDepth 20000 in
theorem X_Mod_walks_e (d : Nat) (x1 : Int32) (σ : Sg) : X_Mod_walks d x1 σ =
  xm_br ((σ.1 39 8) = (-1))
    (X_Mod_walks_21 d x1 ((σ.1 39 5).toInt64) 0 σ)
    (X_Mod_walks_21 d x1 1 0 σ) := (xm_it_eq [21, 68, 77, 126, 138, 211] 12).trans rfl
set_option maxHeartbeats 8000000 in
set_option maxRecDepth 20000 in
theorem X_Mod_walks_21_e (d : Nat) (x1 : Int32) (x2 : Int64) (x4 : Int32) (σ : Sg) : X_Mod_walks_21 d x1 x2 x4 σ =
  xm_br ((σ.1 39 5) ≤ x4)
    (X_Mod_walks_68 d x1 x2 0 σ)
    (xm_br ((σ.1 39 8) = (-1))
      (xm_ix x4 9 (fun j1 => X_Mod_walks_21 d x1 x2 (x4 + 1) (xm_sL σ 54 j1 1)))
      (xm_br ((σ.1 39 8) = x4)
        (xm_ix x4 9 (fun j3 => X_Mod_walks_21 d x1 x2 (x4 + 1) (xm_sL σ 54 j3 1)))
        (xm_ix x4 9 (fun j2 => X_Mod_walks_21 d x1 x2 (x4 + 1) (xm_sL σ 54 j2 0))))) := (xm_it_eq [21, 68, 77, 126, 138, 211] 21).trans rfl
set_option maxHeartbeats 8000000 in
set_option maxRecDepth 20000 in
theorem X_Mod_walks_68_e (d : Nat) (x1 : Int32) (x2 : Int64) (x4 : Int32) (σ : Sg) : X_Mod_walks_68 d x1 x2 x4 σ =
  xm_br (x1 ≤ x4)
    (some (some (.long x2), σ))
    (X_Mod_walks_77 d x1 x2 x4 0 σ) := (xm_it_eq [21, 68, 77, 126, 138, 211] 6).trans rfl
set_option maxHeartbeats 8000000 in
set_option maxRecDepth 20000 in
theorem X_Mod_walks_77_e (d : Nat) (x1 : Int32) (x2 : Int64) (x4 : Int32) (x5 : Int32) (σ : Sg) : X_Mod_walks_77 (d + 1) x1 x2 x4 x5 σ =
  xm_br ((σ.1 39 5) ≤ x5)
    (X_Mod_walks_126 (d + 1) x1 x2 x4 0 σ)
    (xm_cI (X_Mod_degree d x5 σ) (fun r2 σ1 => xm_br (r2 = 0)
      (xm_ix x5 9 (fun j4 => xm_ix x5 9 (fun j5 => X_Mod_walks_77 (d + 1) x1 x2 x4 (x5 + 1) (xm_sL σ1 55 j5 ((σ1.2 54 j4) * 840)))))
      (xm_ix x5 9 (fun j3 => X_Mod_walks_77 (d + 1) x1 x2 x4 (x5 + 1) (xm_sL σ1 55 j3 0))))) := (xm_it_eq [21, 68, 77, 126, 138, 211] 22).trans rfl
set_option maxHeartbeats 8000000 in
set_option maxRecDepth 20000 in
theorem X_Mod_walks_126_e (d : Nat) (x1 : Int32) (x2 : Int64) (x4 : Int32) (x5 : Int32) (σ : Sg) : X_Mod_walks_126 d x1 x2 x4 x5 σ =
  xm_br ((σ.1 39 5) ≤ x5)
    (X_Mod_walks_211 d x1 x2 x4 0 σ)
    (X_Mod_walks_138 d x1 x2 x4 x5 0 σ) := (xm_it_eq [21, 68, 77, 126, 138, 211] 7).trans rfl
set_option maxHeartbeats 8000000 in
set_option maxRecDepth 20000 in
theorem X_Mod_walks_138_e (d : Nat) (x1 : Int32) (x2 : Int64) (x4 : Int32) (x5 : Int32) (x6 : Int32) (σ : Sg) : X_Mod_walks_138 (d + 1) x1 x2 x4 x5 x6 σ =
  xm_br ((σ.1 39 5) ≤ x6)
    (X_Mod_walks_126 (d + 1) x1 x2 x4 (x5 + 1) σ)
    (xm_ix x6 9 (fun j1 => xm_ix x5 9 (fun j2 => xm_br ((((σ.1 44 j2) >>> (x6 &&& 31)) &&& 1) = 1)
      (xm_ix x5 9 (fun j4 => xm_cI (X_Mod_degree d x5 σ) (fun r6 σ5 => xm_dvL r6.toInt64 (xm_ix x6 9 (fun j7 => X_Mod_walks_138 (d + 1) x1 x2 x4 x5 (x6 + 1) (xm_sL σ5 55 j7 ((σ.2 55 j1) + ((σ.2 54 j4) * (840 / r6.toInt64)))))))))
      (xm_ix x6 9 (fun j3 => X_Mod_walks_138 (d + 1) x1 x2 x4 x5 (x6 + 1) (xm_sL σ 55 j3 ((σ.2 55 j1) + 0))))))) := (xm_it_eq [21, 68, 77, 126, 138, 211] 36).trans rfl
set_option maxHeartbeats 8000000 in
set_option maxRecDepth 20000 in
theorem X_Mod_walks_211_e (d : Nat) (x1 : Int32) (x2 : Int64) (x4 : Int32) (x5 : Int32) (σ : Sg) : X_Mod_walks_211 d x1 x2 x4 x5 σ =
  xm_br ((σ.1 39 5) ≤ x5)
    (X_Mod_walks_68 d x1 (x2 * 840) (x4 + 1) σ)
    (xm_ix x5 9 (fun j1 => xm_ix x5 9 (fun j2 => X_Mod_walks_211 d x1 x2 x4 (x5 + 1) (xm_sL σ 54 j2 (σ.2 55 j1))))) := (xm_it_eq [21, 68, 77, 126, 138, 211] 15).trans rfl
noncomputable def X_Mod_at (d : Nat) (x1 : Int32) (x2 : Int32) (x3 : Int32) (σ : Sg) : Oz := xm_rn (xm_call d) 2 kc_Mod_at 0 [.ref 39, .int x1, .int x2, .int x3, .null, .null] [] σ
set_option maxHeartbeats 8000000 in
set_option maxRecDepth 20000 in
theorem X_Mod_at_e (d : Nat) (x1 : Int32) (x2 : Int32) (x3 : Int32) (σ : Sg) : X_Mod_at (d + 1) x1 x2 x3 σ =
  xm_cI (X_Mod_in d x1.toInt64 0 5 σ) (fun r2 σ1 => xm_br (r2 = 0)
    (xm_cL (X_Mod_no d (-2) σ1) (fun r4 σ3 => some (some (.long r4), σ3)))
    (xm_cI (X_Mod_isPerson d x2 σ1) (fun r6 σ5 => xm_br (r6 = 0)
      (xm_cL (X_Mod_no d (-2) σ5) (fun r8 σ7 => some (some (.long r8), σ7)))
      (xm_cI (X_Mod_isTwo d x3 σ5) (fun r10 σ9 => xm_br (r10 = 0)
        (xm_cL (X_Mod_no d (-2) σ9) (fun r17 σ16 => some (some (.long r17), σ16)))
        (xm_cL (X_Mod_walks d x1 σ9) (fun r12 σ11 => xm_ix x2 9 (fun j13 => xm_cL (X_Mod_part d (σ11.2 54 j13) r12 x3 σ11) (fun r15 σ14 => some (some (.long r15), σ14)))))))))) := (xm_it_eq [] 26).trans rfl
noncomputable def X_Mod_degrees (d : Nat)  (σ : Sg) : Oz := xm_rn (xm_call d) 1 kc_Mod_degrees 0 [.ref 39, .null, .null] [] σ
noncomputable def X_Mod_degrees_4 (d : Nat) (x1 : Int32) (x2 : Int32) (σ : Sg) : Oz := xm_rn (xm_call d) 1 kc_Mod_degrees 4 [.ref 39, .int x1, .int x2] [] σ
set_option maxHeartbeats 8000000 in
set_option maxRecDepth 20000 in
theorem X_Mod_degrees_e (d : Nat)  (σ : Sg) : X_Mod_degrees d σ =
  X_Mod_degrees_4 d 0 0 σ := (xm_it_eq [4] 5).trans rfl
set_option maxHeartbeats 8000000 in
set_option maxRecDepth 20000 in
theorem X_Mod_degrees_4_e (d : Nat) (x1 : Int32) (x2 : Int32) (σ : Sg) : X_Mod_degrees_4 (d + 1) x1 x2 σ =
  xm_br ((σ.1 39 5) ≤ x2)
    (some (some (.int x1), σ))
    (xm_cI (X_Mod_degree d x2 σ) (fun r2 σ1 => X_Mod_degrees_4 (d + 1) (x1 + r2) (x2 + 1) σ1)) := (xm_it_eq [4] 13).trans rfl
noncomputable def X_Mod_lasting (d : Nat) (x1 : Int32) (x2 : Int32) (σ : Sg) : Oz := xm_rn (xm_call d) 2 kc_Mod_lasting 0 [.ref 39, .int x1, .int x2] [] σ
set_option maxHeartbeats 8000000 in
set_option maxRecDepth 20000 in
theorem X_Mod_lasting_e (d : Nat) (x1 : Int32) (x2 : Int32) (σ : Sg) : X_Mod_lasting (d + 1) x1 x2 σ =
  xm_cI (X_Mod_isPerson d x1 σ) (fun r2 σ1 => xm_br (r2 = 0)
    (xm_cL (X_Mod_no d (-2) σ1) (fun r4 σ3 => some (some (.long r4), σ3)))
    (xm_cI (X_Mod_isTwo d x2 σ1) (fun r6 σ5 => xm_br (r6 = 0)
      (xm_cL (X_Mod_no d (-2) σ5) (fun r18 σ17 => some (some (.long r18), σ17)))
      (xm_cI (X_Mod_degrees d σ5) (fun r8 σ7 => xm_br (r8 = 0)
        (xm_cL (X_Mod_no d (-3) σ7) (fun r16 σ15 => some (some (.long r16), σ15)))
        (xm_cI (X_Mod_degree d x1 σ7) (fun r10 σ9 => xm_cI (X_Mod_degrees d σ9) (fun r12 σ11 => xm_cL (X_Mod_part d r10.toInt64 r12.toInt64 x2 σ11) (fun r14 σ13 => some (some (.long r14), σ13)))))))))) := (xm_it_eq [] 21).trans rfl
noncomputable def X_Mod_strayed (d : Nat) (x1 : Int32) (x2 : Int32) (σ : Sg) : Oz := xm_rn (xm_call d) 2 kc_Mod_strayed 0 [.ref 39, .int x1, .int x2, .null, .null, .null, .null, .null, .null, .null] [] σ
noncomputable def X_Mod_strayed_50 (d : Nat) (x2 : Int32) (x3 : Int64) (x5 : Int64) (x7 : Int32) (σ : Sg) : Oz := xm_rn (xm_call d) 2 kc_Mod_strayed 50 [.ref 39, .null, .int x2, .long x3, .null, .long x5, .null, .int x7, .null, .null] [] σ
set_option maxHeartbeats 8000000 in
set_option maxRecDepth 20000 in
theorem X_Mod_strayed_e (d : Nat) (x1 : Int32) (x2 : Int32) (σ : Sg) : X_Mod_strayed (d + 1) x1 x2 σ =
  xm_cI (X_Mod_in d x1.toInt64 0 5 σ) (fun r2 σ1 => xm_br (r2 = 0)
    (xm_cL (X_Mod_no d (-2) σ1) (fun r4 σ3 => some (some (.long r4), σ3)))
    (xm_cI (X_Mod_isTwo d x2 σ1) (fun r6 σ5 => xm_br (r6 = 0)
      (xm_cL (X_Mod_no d (-2) σ5) (fun r14 σ13 => some (some (.long r14), σ13)))
      (xm_cI (X_Mod_degrees d σ5) (fun r8 σ7 => xm_br (r8 = 0)
        (xm_cL (X_Mod_no d (-3) σ7) (fun r12 σ11 => some (some (.long r12), σ11)))
        (xm_cL (X_Mod_walks d x1 σ7) (fun r10 σ9 => X_Mod_strayed_50 (d + 1) x2 r10 0 0 σ9))))))) := (xm_it_eq [50] 21).trans rfl
set_option maxHeartbeats 8000000 in
set_option maxRecDepth 20000 in
theorem X_Mod_strayed_50_e (d : Nat) (x2 : Int32) (x3 : Int64) (x5 : Int64) (x7 : Int32) (σ : Sg) : X_Mod_strayed_50 (d + 1) x2 x3 x5 x7 σ =
  xm_br ((σ.1 39 5) ≤ x7)
    (xm_cI (X_Mod_degrees d σ) (fun r2 σ1 => xm_cL (X_Mod_part d x5 ((2 * x3) * r2.toInt64) x2 σ1) (fun r4 σ3 => some (some (.long r4), σ3))))
    (xm_ix x7 9 (fun j5 => xm_cI (X_Mod_degrees d σ) (fun r7 σ6 => xm_cI (X_Mod_degree d x7 σ6) (fun r9 σ8 => xm_br (0 ≤ (lg_cmp (((σ.2 54 j5) * r7.toInt64) - (r9.toInt64 * x3)) 0))
      (X_Mod_strayed_50 (d + 1) x2 x3 (x5 + (((σ.2 54 j5) * r7.toInt64) - (r9.toInt64 * x3))) (x7 + 1) σ8)
      (X_Mod_strayed_50 (d + 1) x2 x3 (x5 + (-(((σ.2 54 j5) * r7.toInt64) - (r9.toInt64 * x3)))) (x7 + 1) σ8))))) := (xm_it_eq [50] 33).trans rfl
noncomputable def X_Mod_isRecord (d : Nat) (x1 : Int32) (σ : Sg) : Oz := xm_rn (xm_call d) 3 kc_Mod_isRecord 0 [.ref 39, .int x1] [] σ
set_option maxHeartbeats 8000000 in
set_option maxRecDepth 20000 in
theorem X_Mod_isRecord_e (d : Nat) (x1 : Int32) (σ : Sg) : X_Mod_isRecord (d + 1) x1 σ =
  xm_cI (X_Mod_in d x1.toInt64 0 (((σ.1 39 26) - 1).toInt64) σ) (fun r2 σ1 => xm_bo r2 (some (some (.int r2), σ1))) := (xm_it_eq [] 11).trans rfl
noncomputable def X_Mod_came (d : Nat) (x1 : Int32) (x2 : Int32) (x3 : Int32) (x4 : Int32) (σ : Sg) : Oz := xm_rn (xm_call d) 1 kc_Mod_came 0 [.ref 39, .int x1, .int x2, .int x3, .int x4] [] σ
noncomputable def X_Mod_came_37 (d : Nat) (x1 : Int32) (x2 : Int32) (x3 : Int32) (x4 : Int32) (σ : Sg) : Oz := xm_rn (xm_call d) 1 kc_Mod_came 37 [.ref 39, .int x1, .int x2, .int x3, .int x4] [] σ
noncomputable def X_Mod_came_54 (d : Nat)  (σ : Sg) : Oz := xm_rn (xm_call d) 1 kc_Mod_came 54 [.null, .null, .null, .null, .null] [] σ
noncomputable def X_Mod_came_87 (d : Nat) (x1 : Int32) (x2 : Int32) (x3 : Int32) (x4 : Int32) (σ : Sg) : Oz := xm_rn (xm_call d) 1 kc_Mod_came 87 [.ref 39, .int x1, .int x2, .int x3, .int x4] [] σ
noncomputable def X_Mod_came_163 (d : Nat) (x1 : Int32) (x4 : Int32) (s0 : Int32) (s1 : Int32) (σ : Sg) : Oz := xm_rn (xm_call d) 1 kc_Mod_came 163 [.ref 39, .int x1, .null, .null, .int x4] [.int s0, .int s1, .ref 62] σ
noncomputable def X_Mod_came_190 (d : Nat) (x1 : Int32) (x4 : Int32) (s0 : Int32) (s1 : Int32) (σ : Sg) : Oz := xm_rn (xm_call d) 1 kc_Mod_came 190 [.ref 39, .int x1, .null, .null, .int x4] [.int s0, .int s1, .ref 63] σ
noncomputable def X_Mod_came_206 (d : Nat) (x4 : Int32) (σ : Sg) : Oz := xm_rn (xm_call d) 1 kc_Mod_came 206 [.ref 39, .null, .null, .null, .int x4] [] σ
set_option maxHeartbeats 8000000 in
set_option maxRecDepth 20000 in
theorem X_Mod_came_e (d : Nat) (x1 : Int32) (x2 : Int32) (x3 : Int32) (x4 : Int32) (σ : Sg) : X_Mod_came (d + 1) x1 x2 x3 x4 σ =
  xm_br (x1 = (-1))
    (xm_cI (X_Mod_isTwo d x2 σ) (fun r2 σ1 => xm_br (r2 = 0)
      (X_Mod_came_54 (d + 1) σ1)
      (xm_br (x3 = (-1))
        (X_Mod_came_37 (d + 1) x1 x2 x3 x4 σ1)
        (xm_cI (X_Mod_in d x3.toInt64 1 20 σ1) (fun r4 σ3 => xm_br (r4 = 0)
          (X_Mod_came_54 (d + 1) σ3)
          (X_Mod_came_37 (d + 1) x1 x2 x3 x4 σ3))))))
    (xm_cI (X_Mod_isRecord d x1 σ) (fun r6 σ5 => xm_br (r6 = 0)
      (X_Mod_came_54 (d + 1) σ5)
      (xm_cI (X_Mod_isTwo d x2 σ5) (fun r8 σ7 => xm_br (r8 = 0)
        (X_Mod_came_54 (d + 1) σ7)
        (xm_br (x3 = (-1))
          (X_Mod_came_37 (d + 1) x1 x2 x3 x4 σ7)
          (xm_cI (X_Mod_in d x3.toInt64 1 20 σ7) (fun r10 σ9 => xm_br (r10 = 0)
            (X_Mod_came_54 (d + 1) σ9)
            (X_Mod_came_37 (d + 1) x1 x2 x3 x4 σ9)))))))) := (xm_it_eq [37, 54, 87, 163, 190, 206] 20).trans rfl
set_option maxHeartbeats 8000000 in
set_option maxRecDepth 20000 in
theorem X_Mod_came_37_e (d : Nat) (x1 : Int32) (x2 : Int32) (x3 : Int32) (x4 : Int32) (σ : Sg) : X_Mod_came_37 (d + 1) x1 x2 x3 x4 σ =
  xm_cI (X_Mod_in d x4.toInt64 ((σ.1 39 35).toInt64) 99 σ) (fun r2 σ1 => xm_br (r2 = 0)
    (X_Mod_came_54 (d + 1) σ1)
    (xm_br ((σ1.1 39 26) = 24)
      (some (some (.int (-4)), σ1))
      (xm_br (x1 = (-1))
        (X_Mod_came_87 (d + 1) x1 x2 x3 x4 σ1)
        (xm_ix x1 24 (fun j3 => xm_br ((σ1.1 61 j3) = 3)
          (some (some (.int (-3)), σ1))
          (X_Mod_came_87 (d + 1) x1 x2 x3 x4 σ1)))))) := (xm_it_eq [37, 54, 87, 163, 190, 206] 24).trans rfl
set_option maxHeartbeats 8000000 in
set_option maxRecDepth 20000 in
theorem X_Mod_came_54_e (d : Nat)  (σ : Sg) : X_Mod_came_54 d σ =
  some (some (.int (-2)), σ) := (xm_it_eq [37, 54, 87, 163, 190, 206] 3).trans rfl
set_option maxHeartbeats 8000000 in
set_option maxRecDepth 20000 in
theorem X_Mod_came_87_e (d : Nat) (x1 : Int32) (x2 : Int32) (x3 : Int32) (x4 : Int32) (σ : Sg) : X_Mod_came_87 d x1 x2 x3 x4 σ =
  xm_ix (σ.1 39 26) 24 (fun j1 => xm_ix (σ.1 39 26) 24 (fun j2 => xm_ix (σ.1 39 26) 24 (fun j3 => xm_ix (σ.1 39 26) 24 (fun j4 => xm_ix (σ.1 39 26) 24 (fun j5 => xm_br (x1 = (-1))
    (X_Mod_came_163 d x1 x4 0 (σ.1 39 26) (xm_sI (xm_sI (xm_sI (xm_sI (xm_sI σ 56 j1 x1) 57 j2 x2) 58 j3 x3) 59 j4 x4) 60 j5 (-1)))
    (xm_ix x1 24 (fun j6 => X_Mod_came_163 d x1 x4 ((σ.1 62 j6) + 1) (σ.1 39 26) (xm_sI (xm_sI (xm_sI (xm_sI (xm_sI σ 56 j1 x1) 57 j2 x2) 58 j3 x3) 59 j4 x4) 60 j5 (-1))))))))) := (xm_it_eq [37, 54, 87, 163, 190, 206] 44).trans rfl
set_option maxHeartbeats 8000000 in
set_option maxRecDepth 20000 in
theorem X_Mod_came_163_e (d : Nat) (x1 : Int32) (x4 : Int32) (s0 : Int32) (s1 : Int32) (σ : Sg) : X_Mod_came_163 d x1 x4 s0 s1 σ =
  xm_ix s1 24 (fun j1 => xm_br (x1 = (-1))
    (X_Mod_came_190 d x1 x4 (σ.1 39 26) (σ.1 39 26) (xm_sI σ 62 j1 s0))
    (xm_ix x1 24 (fun j2 => X_Mod_came_190 d x1 x4 (σ.1 63 j2) (σ.1 39 26) (xm_sI σ 62 j1 s0)))) := (xm_it_eq [37, 54, 87, 163, 190, 206] 13).trans rfl
set_option maxHeartbeats 8000000 in
set_option maxRecDepth 20000 in
theorem X_Mod_came_190_e (d : Nat) (x1 : Int32) (x4 : Int32) (s0 : Int32) (s1 : Int32) (σ : Sg) : X_Mod_came_190 d x1 x4 s0 s1 σ =
  xm_ix s1 24 (fun j1 => xm_br (x1 = (-1))
    (X_Mod_came_206 d x4 (xm_sI σ 63 j1 s0))
    (xm_ix x1 24 (fun j2 => xm_ix x1 24 (fun j3 => X_Mod_came_206 d x4 (xm_sI (xm_sI σ 63 j1 s0) 61 j3 ((σ.1 61 j2) + 1)))))) := (xm_it_eq [37, 54, 87, 163, 190, 206] 13).trans rfl
set_option maxHeartbeats 8000000 in
set_option maxRecDepth 20000 in
theorem X_Mod_came_206_e (d : Nat) (x4 : Int32) (σ : Sg) : X_Mod_came_206 d x4 σ =
  some (some (.int (((σ.1 39 26) + 1) - 1)), (xm_sI (xm_sI σ 39 35 x4) 39 26 ((σ.1 39 26) + 1))) := (xm_it_eq [37, 54, 87, 163, 190, 206] 15).trans rfl
noncomputable def X_Mod_takeBack (d : Nat) (x1 : Int32) (x2 : Int32) (σ : Sg) : Oz := xm_rn (xm_call d) 1 kc_Mod_takeBack 0 [.ref 39, .int x1, .int x2] [] σ
set_option maxHeartbeats 8000000 in
set_option maxRecDepth 20000 in
theorem X_Mod_takeBack_e (d : Nat) (x1 : Int32) (x2 : Int32) (σ : Sg) : X_Mod_takeBack (d + 1) x1 x2 σ =
  xm_cI (X_Mod_isRecord d x1 σ) (fun r2 σ1 => xm_br (r2 = 0)
    (some (some (.int (-2)), σ1))
    (xm_cI (X_Mod_in d x2.toInt64 ((σ1.1 39 35).toInt64) 99 σ1) (fun r4 σ3 => xm_br (r4 = 0)
      (some (some (.int (-2)), σ3))
      (xm_ix x1 24 (fun j5 => xm_br ((σ3.1 60 j5) = (-1))
        (xm_ix x1 24 (fun j6 => some (some (.int 1), (xm_sI (xm_sI σ3 60 j6 x2) 39 35 x2))))
        (some (some (.int (-3)), σ3))))))) := (xm_it_eq [] 29).trans rfl
noncomputable def X_Mod_findCounts (d : Nat)  (σ : Sg) : Oz := xm_rn (xm_call d) 0 kc_Mod_findCounts 0 [.ref 39, .null, .null] [] σ
noncomputable def X_Mod_findCounts_2 (d : Nat) (x1 : Int32) (σ : Sg) : Oz := xm_rn (xm_call d) 0 kc_Mod_findCounts 2 [.ref 39, .int x1, .null] [] σ
set_option maxHeartbeats 8000000 in
set_option maxRecDepth 20000 in
theorem X_Mod_findCounts_e (d : Nat)  (σ : Sg) : X_Mod_findCounts d σ =
  X_Mod_findCounts_2 d 0 σ := (xm_it_eq [2] 3).trans rfl
set_option maxHeartbeats 8000000 in
set_option maxRecDepth 20000 in
theorem X_Mod_findCounts_2_e (d : Nat) (x1 : Int32) (σ : Sg) : X_Mod_findCounts_2 d x1 σ =
  xm_br ((σ.1 39 26) ≤ x1)
    (some (none, σ))
    (xm_ix x1 24 (fun j1 => xm_br ((σ.1 39 10) < (σ.1 59 j1))
      (xm_ix x1 24 (fun j2 => X_Mod_findCounts_2 d (x1 + 1) (xm_sI σ 64 j2 0)))
      (xm_ix x1 24 (fun j3 => xm_br ((σ.1 60 j3) = (-1))
        (xm_ix x1 24 (fun j4 => xm_br ((σ.1 56 j4) = (-1))
          (xm_ix x1 24 (fun j5 => X_Mod_findCounts_2 d (x1 + 1) (xm_sI σ 64 j5 1)))
          (xm_ix x1 24 (fun j6 => xm_ix (σ.1 56 j6) 24 (fun j7 => xm_br ((σ.1 64 j7) = 0)
            (xm_ix x1 24 (fun j8 => X_Mod_findCounts_2 d (x1 + 1) (xm_sI σ 64 j8 0)))
            (xm_ix x1 24 (fun j9 => X_Mod_findCounts_2 d (x1 + 1) (xm_sI σ 64 j9 1))))))))
        (xm_ix x1 24 (fun j10 => xm_br ((σ.1 60 j10) ≤ (σ.1 39 10))
          (xm_ix x1 24 (fun j11 => X_Mod_findCounts_2 d (x1 + 1) (xm_sI σ 64 j11 0)))
          (xm_ix x1 24 (fun j12 => xm_br ((σ.1 56 j12) = (-1))
            (xm_ix x1 24 (fun j13 => X_Mod_findCounts_2 d (x1 + 1) (xm_sI σ 64 j13 1)))
            (xm_ix x1 24 (fun j14 => xm_ix (σ.1 56 j14) 24 (fun j15 => xm_br ((σ.1 64 j15) = 0)
              (xm_ix x1 24 (fun j16 => X_Mod_findCounts_2 d (x1 + 1) (xm_sI σ 64 j16 0)))
              (xm_ix x1 24 (fun j17 => X_Mod_findCounts_2 d (x1 + 1) (xm_sI σ 64 j17 1)))))))))))))) := (xm_it_eq [2] 52).trans rfl
noncomputable def X_Mod_recordOf (d : Nat) (x1 : Int32) (x2 : Int32) (σ : Sg) : Oz := xm_rn (xm_call d) 1 kc_Mod_recordOf 0 [.ref 39, .int x1, .int x2] [] σ
set_option maxHeartbeats 8000000 in
set_option maxRecDepth 20000 in
theorem X_Mod_recordOf_e (d : Nat) (x1 : Int32) (x2 : Int32) (σ : Sg) : X_Mod_recordOf d x1 x2 σ =
  xm_br (x2 = 0)
    (xm_ix x1 24 (fun j1 => some (some (.int (σ.1 56 j1)), σ)))
    (xm_br (x2 = 1)
    (xm_ix x1 24 (fun j2 => some (some (.int (σ.1 57 j2)), σ)))
    (xm_br (x2 = 2)
    (xm_ix x1 24 (fun j3 => some (some (.int (σ.1 58 j3)), σ)))
    (xm_br (x2 = 3)
    (xm_ix x1 24 (fun j4 => some (some (.int (σ.1 59 j4)), σ)))
    (xm_br (x2 = 4)
    (xm_ix x1 24 (fun j5 => xm_br ((σ.1 64 j5) = 0)
      (some (some (.int 0), σ))
      (some (some (.int 1), σ))))
    (xm_br (x2 = 5)
    (xm_ix x1 24 (fun j6 => some (some (.int (σ.1 62 j6)), σ)))
    (xm_br (x2 = 6)
    (xm_ix x1 24 (fun j7 => some (some (.int (σ.1 63 j7)), σ)))
    (xm_ix x1 24 (fun j8 => some (some (.int (σ.1 61 j8)), σ))))))))) := (xm_it_eq [] 11).trans rfl
noncomputable def X_Mod_record (d : Nat) (x1 : Int32) (x2 : Int32) (σ : Sg) : Oz := xm_rn (xm_call d) 1 kc_Mod_record 0 [.ref 39, .int x1, .int x2] [] σ
set_option maxHeartbeats 8000000 in
set_option maxRecDepth 20000 in
theorem X_Mod_record_e (d : Nat) (x1 : Int32) (x2 : Int32) (σ : Sg) : X_Mod_record (d + 1) x1 x2 σ =
  xm_cI (X_Mod_isRecord d x1 σ) (fun r2 σ1 => xm_br (r2 = 0)
    (some (some (.int (-5)), σ1))
    (xm_cI (X_Mod_in d x2.toInt64 0 7 σ1) (fun r4 σ3 => xm_br (r4 = 0)
      (some (some (.int (-5)), σ3))
      (xm_cV (X_Mod_findCounts d σ3) (fun σ5 => xm_cI (X_Mod_recordOf d x1 x2 σ5) (fun r7 σ6 => some (some (.int r7), σ6))))))) := (xm_it_eq [] 18).trans rfl
noncomputable def X_Mod_isTaken (d : Nat) (x1 : Int32) (σ : Sg) : Oz := xm_rn (xm_call d) 3 kc_Mod_isTaken 0 [.ref 39, .int x1] [] σ
set_option maxHeartbeats 8000000 in
set_option maxRecDepth 20000 in
theorem X_Mod_isTaken_e (d : Nat) (x1 : Int32) (σ : Sg) : X_Mod_isTaken d x1 σ =
  xm_ix x1 24 (fun j1 => xm_br ((σ.1 64 j1) = 0)
    (some (some (.int 0), σ))
    (xm_ix x1 24 (fun j2 => xm_br ((σ.1 62 j2) < (σ.1 39 11))
      (some (some (.int 0), σ))
      (some (some (.int 1), σ))))) := (xm_it_eq [] 16).trans rfl
noncomputable def X_Mod_plainly (d : Nat)  (σ : Sg) : Oz := xm_rn (xm_call d) 0 kc_Mod_plainly 0 [.ref 39, .null] [] σ
noncomputable def X_Mod_plainly_12 (d : Nat) (x1 : Int32) (σ : Sg) : Oz := xm_rn (xm_call d) 0 kc_Mod_plainly 12 [.ref 39, .int x1] [] σ
set_option maxHeartbeats 8000000 in
set_option maxRecDepth 20000 in
theorem X_Mod_plainly_e (d : Nat)  (σ : Sg) : X_Mod_plainly d σ =
  X_Mod_plainly_12 d 0 (xm_sL (xm_sL σ 39 37 0) 39 38 0) := (xm_it_eq [12] 9).trans rfl
set_option maxHeartbeats 8000000 in
set_option maxRecDepth 20000 in
theorem X_Mod_plainly_12_e (d : Nat) (x1 : Int32) (σ : Sg) : X_Mod_plainly_12 (d + 1) x1 σ =
  xm_br ((σ.1 39 26) ≤ x1)
    (some (none, σ))
    (xm_cI (X_Mod_isTaken d x1 σ) (fun r2 σ1 => xm_br (r2 = 0)
      (xm_cI (X_Mod_isTaken d x1 (xm_sL σ1 39 37 ((σ.2 39 37) + 0))) (fun r4 σ3 => xm_br (r4 = 0)
        (X_Mod_plainly_12 (d + 1) (x1 + 1) (xm_sL σ3 39 38 ((σ1.2 39 38) + 0)))
        (X_Mod_plainly_12 (d + 1) (x1 + 1) (xm_sL σ3 39 38 ((σ1.2 39 38) + 1)))))
      (xm_ix x1 24 (fun j5 => xm_cI (X_Mod_isTaken d x1 (xm_sL σ1 39 37 ((σ.2 39 37) + ((σ1.1 57 j5).toInt64)))) (fun r7 σ6 => xm_br (r7 = 0)
        (X_Mod_plainly_12 (d + 1) (x1 + 1) (xm_sL σ6 39 38 ((σ1.2 39 38) + 0)))
        (X_Mod_plainly_12 (d + 1) (x1 + 1) (xm_sL σ6 39 38 ((σ1.2 39 38) + 1)))))))) := (xm_it_eq [12] 33).trans rfl
noncomputable def X_Mod_byTies (d : Nat) (x1 : Int32) (x2 : Int32) (σ : Sg) : Oz := xm_rn (xm_call d) 0 kc_Mod_byTies 0 [.ref 39, .int x1, .int x2, .null, .null, .null, .null] [] σ
noncomputable def X_Mod_byTies_12 (d : Nat) (x1 : Int32) (x2 : Int32) (x3 : Int32) (σ : Sg) : Oz := xm_rn (xm_call d) 0 kc_Mod_byTies 12 [.ref 39, .int x1, .int x2, .int x3, .null, .null, .null] [] σ
noncomputable def X_Mod_byTies_88 (d : Nat) (x1 : Int32) (x2 : Int32) (x3 : Int32) (s0 : Int32) (s1 : Int64) (σ : Sg) : Oz := xm_rn (xm_call d) 0 kc_Mod_byTies 88 [.ref 39, .int x1, .int x2, .int x3, .null, .null, .null] [.int s0, .long s1] σ
noncomputable def X_Mod_byTies_124 (d : Nat) (x1 : Int32) (x2 : Int32) (x3 : Int32) (s0 : Int64) (s1 : Int64) (σ : Sg) : Oz := xm_rn (xm_call d) 0 kc_Mod_byTies 124 [.ref 39, .int x1, .int x2, .int x3, .null, .null, .null] [.long s0, .long s1, .ref 39] σ
noncomputable def X_Mod_byTies_128 (d : Nat) (x1 : Int32) (x2 : Int32) (x3 : Int32) (σ : Sg) : Oz := xm_rn (xm_call d) 0 kc_Mod_byTies 128 [.ref 39, .int x1, .int x2, .int x3, .null, .null, .null] [] σ
set_option maxHeartbeats 8000000 in
set_option maxRecDepth 20000 in
theorem X_Mod_byTies_e (d : Nat) (x1 : Int32) (x2 : Int32) (σ : Sg) : X_Mod_byTies d x1 x2 σ =
  X_Mod_byTies_12 d x1 x2 0 (xm_sL (xm_sL σ 39 37 0) 39 38 0) := (xm_it_eq [12, 88, 124, 128] 9).trans rfl
set_option maxHeartbeats 8000000 in
set_option maxRecDepth 20000 in
theorem X_Mod_byTies_12_e (d : Nat) (x1 : Int32) (x2 : Int32) (x3 : Int32) (σ : Sg) : X_Mod_byTies_12 (d + 1) x1 x2 x3 σ =
  xm_br ((σ.1 39 26) ≤ x3)
    (some (none, σ))
    (xm_cI (X_Mod_isTaken d x3 σ) (fun r2 σ1 => xm_br (r2 = 0)
      (X_Mod_byTies_128 (d + 1) x1 x2 x3 σ1)
      (xm_ix x3 24 (fun j3 => xm_br ((σ1.1 58 j3) = (-1))
        (X_Mod_byTies_128 (d + 1) x1 x2 x3 σ1)
        (xm_ix x3 24 (fun j4 => xm_br ((σ1.1 63 j4) = x2)
          (X_Mod_byTies_128 (d + 1) x1 x2 x3 σ1)
          (xm_ix x3 24 (fun j5 => xm_ix x3 24 (fun j6 => xm_br ((σ1.1 57 j6) = 1)
            (xm_br (1 ≤ ((σ1.1 58 j5) + x1))
              (X_Mod_byTies_88 (d + 1) x1 x2 x3 ((σ1.1 58 j5) + x1) 26771144400 σ1)
              (X_Mod_byTies_88 (d + 1) x1 x2 x3 1 26771144400 σ1))
            (xm_br (1 ≤ ((σ1.1 58 j5) + (-x1)))
              (X_Mod_byTies_88 (d + 1) x1 x2 x3 ((σ1.1 58 j5) + (-x1)) 26771144400 σ1)
              (X_Mod_byTies_88 (d + 1) x1 x2 x3 1 26771144400 σ1))))))))))) := (xm_it_eq [12, 88, 124, 128] 41).trans rfl
set_option maxHeartbeats 8000000 in
set_option maxRecDepth 20000 in
theorem X_Mod_byTies_88_e (d : Nat) (x1 : Int32) (x2 : Int32) (x3 : Int32) (s0 : Int32) (s1 : Int64) (σ : Sg) : X_Mod_byTies_88 d x1 x2 x3 s0 s1 σ =
  xm_dvL s0.toInt64 (xm_ix x3 24 (fun j1 => xm_br ((σ.1 57 j1) = 1)
    (X_Mod_byTies_124 d x1 x2 x3 (s1 / s0.toInt64) (σ.2 39 37) (xm_sL σ 39 38 ((σ.2 39 38) + (s1 / s0.toInt64))))
    (X_Mod_byTies_124 d x1 x2 x3 0 (σ.2 39 37) (xm_sL σ 39 38 ((σ.2 39 38) + (s1 / s0.toInt64)))))) := (xm_it_eq [12, 88, 124, 128] 21).trans rfl
set_option maxHeartbeats 8000000 in
set_option maxRecDepth 20000 in
theorem X_Mod_byTies_124_e (d : Nat) (x1 : Int32) (x2 : Int32) (x3 : Int32) (s0 : Int64) (s1 : Int64) (σ : Sg) : X_Mod_byTies_124 d x1 x2 x3 s0 s1 σ =
  X_Mod_byTies_128 d x1 x2 x3 (xm_sL σ 39 37 (s1 + s0)) := (xm_it_eq [12, 88, 124, 128] 3).trans rfl
set_option maxHeartbeats 8000000 in
set_option maxRecDepth 20000 in
theorem X_Mod_byTies_128_e (d : Nat) (x1 : Int32) (x2 : Int32) (x3 : Int32) (σ : Sg) : X_Mod_byTies_128 d x1 x2 x3 σ =
  X_Mod_byTies_12 d x1 x2 (x3 + 1) σ := (xm_it_eq [12, 88, 124, 128] 3).trans rfl
noncomputable def X_Mod_findBrought (d : Nat)  (σ : Sg) : Oz := xm_rn (xm_call d) 0 kc_Mod_findBrought 0 [.ref 39, .null, .null] [] σ
noncomputable def X_Mod_findBrought_22 (d : Nat) (x1 : Int32) (σ : Sg) : Oz := xm_rn (xm_call d) 0 kc_Mod_findBrought 22 [.ref 39, .int x1, .null] [] σ
set_option maxHeartbeats 8000000 in
set_option maxRecDepth 20000 in
theorem X_Mod_findBrought_e (d : Nat)  (σ : Sg) : X_Mod_findBrought d σ =
  X_Mod_findBrought_22 d 0 (xm_sI (xm_sI (xm_sI (xm_sI σ 39 39 0) 39 40 0) 39 41 0) 39 42 0) := (xm_it_eq [22] 15).trans rfl
set_option maxHeartbeats 8000000 in
set_option maxRecDepth 20000 in
theorem X_Mod_findBrought_22_e (d : Nat) (x1 : Int32) (σ : Sg) : X_Mod_findBrought_22 (d + 1) x1 σ =
  xm_br ((σ.1 39 26) ≤ x1)
    (some (none, σ))
    (xm_cI (X_Mod_isTaken d x1 σ) (fun r2 σ1 => xm_br (r2 = 0)
      (X_Mod_findBrought_22 (d + 1) (x1 + 1) σ1)
      (xm_ix x1 24 (fun j3 => xm_br ((σ1.1 56 j3) = (-1))
        (X_Mod_findBrought_22 (d + 1) (x1 + 1) σ1)
        (xm_ix x1 24 (fun j4 => xm_ix (σ1.1 56 j4) 24 (fun j5 => xm_br ((σ1.1 57 j5) = 1)
          (xm_ix x1 24 (fun j7 => xm_br ((σ1.1 57 j7) = 0)
            (X_Mod_findBrought_22 (d + 1) (x1 + 1) (xm_sI (xm_sI (xm_sI (xm_sI σ1 39 40 ((σ1.1 39 40) + 1)) 39 39 ((σ1.1 39 39) + 0)) 39 42 ((σ1.1 39 42) + 1)) 39 41 ((σ1.1 39 41) + 0)))
            (X_Mod_findBrought_22 (d + 1) (x1 + 1) (xm_sI (xm_sI (xm_sI (xm_sI σ1 39 40 ((σ1.1 39 40) + 1)) 39 39 ((σ1.1 39 39) + 0)) 39 42 ((σ1.1 39 42) + 0)) 39 41 ((σ1.1 39 41) + 0)))))
          (xm_ix x1 24 (fun j6 => xm_br ((σ1.1 57 j6) = 1)
            (X_Mod_findBrought_22 (d + 1) (x1 + 1) (xm_sI (xm_sI (xm_sI (xm_sI σ1 39 40 ((σ1.1 39 40) + 0)) 39 39 ((σ1.1 39 39) + 1)) 39 42 ((σ1.1 39 42) + 0)) 39 41 ((σ1.1 39 41) + 1)))
            (X_Mod_findBrought_22 (d + 1) (x1 + 1) (xm_sI (xm_sI (xm_sI (xm_sI σ1 39 40 ((σ1.1 39 40) + 0)) 39 39 ((σ1.1 39 39) + 1)) 39 42 ((σ1.1 39 42) + 0)) 39 41 ((σ1.1 39 41) + 0)))))))))))) := (xm_it_eq [22] 69).trans rfl
noncomputable def X_Mod_byBringing (d : Nat)  (σ : Sg) : Oz := xm_rn (xm_call d) 0 kc_Mod_byBringing 0 [.ref 39, .null, .null, .null, .null, .null, .null, .null, .null, .null] [] σ
noncomputable def X_Mod_byBringing_17 (d : Nat) (x1 : Int64) (x3 : Int64) (x5 : Int32) (x6 : Int32) (x7 : Int32) (σ : Sg) : Oz := xm_rn (xm_call d) 0 kc_Mod_byBringing 17 [.ref 39, .long x1, .null, .long x3, .null, .int x5, .int x6, .int x7, .null, .null] [] σ
set_option maxHeartbeats 8000000 in
set_option maxRecDepth 20000 in
theorem X_Mod_byBringing_e (d : Nat)  (σ : Sg) : X_Mod_byBringing (d + 1) σ =
  xm_cV (X_Mod_findBrought d σ) (fun σ1 => X_Mod_byBringing_17 (d + 1) 0 0 0 0 0 σ1) := (xm_it_eq [17] 13).trans rfl
set_option maxHeartbeats 8000000 in
set_option maxRecDepth 20000 in
theorem X_Mod_byBringing_17_e (d : Nat) (x1 : Int64) (x3 : Int64) (x5 : Int32) (x6 : Int32) (x7 : Int32) (σ : Sg) : X_Mod_byBringing_17 (d + 1) x1 x3 x5 x6 x7 σ =
  xm_br ((σ.1 39 26) ≤ x7)
    (xm_br ((σ.1 39 39) ≤ 0)
      (some (none, (xm_sL (xm_sL σ 39 37 0) 39 38 0)))
      (xm_br ((σ.1 39 40) ≤ 0)
        (some (none, (xm_sL (xm_sL σ 39 37 0) 39 38 0)))
        (xm_br (x5 ≤ 0)
          (some (none, (xm_sL (xm_sL σ 39 37 0) 39 38 0)))
          (xm_br (x6 ≤ 0)
            (some (none, (xm_sL (xm_sL σ 39 37 0) 39 38 0)))
            (xm_cL (X_Mod_divisor d x1 x3 σ) (fun r2 σ1 => xm_dvL r2 (xm_dvL r2 (some (none, (xm_sL (xm_sL σ1 39 37 (((((σ1.1 39 41).toInt64) * x6.toInt64) * ((σ1.1 39 40).toInt64)) * (x1 / r2))) 39 38 ((((((σ1.1 39 41).toInt64) * x6.toInt64) * ((σ1.1 39 40).toInt64)) * (x1 / r2)) + (((((σ1.1 39 42).toInt64) * x5.toInt64) * ((σ1.1 39 39).toInt64)) * (x3 / r2)))))))))))))
    (xm_cI (X_Mod_isTaken d x7 σ) (fun r4 σ3 => xm_br (r4 = 0)
      (X_Mod_byBringing_17 (d + 1) x1 x3 x5 x6 (x7 + 1) σ3)
      (xm_ix x7 24 (fun j5 => xm_br ((σ3.1 58 j5) = (-1))
        (X_Mod_byBringing_17 (d + 1) x1 x3 x5 x6 (x7 + 1) σ3)
        (xm_ix x7 24 (fun j6 => xm_br ((σ3.1 57 j6) = 1)
          (xm_ix x7 24 (fun j8 => xm_dvL ((σ3.1 58 j8).toInt64) (X_Mod_byBringing_17 (d + 1) (x1 + (26771144400 / ((σ3.1 58 j8).toInt64))) (x3 + 0) (x5 + 1) (x6 + 0) (x7 + 1) σ3)))
          (xm_ix x7 24 (fun j7 => xm_dvL ((σ3.1 58 j7).toInt64) (X_Mod_byBringing_17 (d + 1) (x1 + 0) (x3 + (26771144400 / ((σ3.1 58 j7).toInt64))) (x5 + 0) (x6 + 1) (x7 + 1) σ3))))))))) := (xm_it_eq [17] 67).trans rfl
noncomputable def X_Mod_shareOf (d : Nat) (x1 : Int32) (x2 : Int32) (σ : Sg) : Oz := xm_rn (xm_call d) 2 kc_Mod_shareOf 0 [.ref 39, .int x1, .int x2] [] σ
set_option maxHeartbeats 8000000 in
set_option maxRecDepth 20000 in
theorem X_Mod_shareOf_e (d : Nat) (x1 : Int32) (x2 : Int32) (σ : Sg) : X_Mod_shareOf (d + 1) x1 x2 σ =
  xm_cV (X_Mod_findCounts d σ) (fun σ1 => xm_br (x1 = 0)
    (xm_cV (X_Mod_plainly d σ1) (fun σ12 => xm_br ((lg_cmp (σ12.2 39 38) 0) = 0)
      (xm_cL (X_Mod_no d (-3) σ12) (fun r16 σ15 => some (some (.long r16), σ15)))
      (xm_cL (X_Mod_part d (σ12.2 39 37) (σ12.2 39 38) x2 σ12) (fun r14 σ13 => some (some (.long r14), σ13)))))
    (xm_br (x1 = 1)
      (xm_cV (X_Mod_byTies d 0 (-1) σ1) (fun σ7 => xm_br ((lg_cmp (σ7.2 39 38) 0) = 0)
        (xm_cL (X_Mod_no d (-3) σ7) (fun r11 σ10 => some (some (.long r11), σ10)))
        (xm_cL (X_Mod_part d (σ7.2 39 37) (σ7.2 39 38) x2 σ7) (fun r9 σ8 => some (some (.long r9), σ8)))))
      (xm_cV (X_Mod_byBringing d σ1) (fun σ2 => xm_br ((lg_cmp (σ2.2 39 38) 0) = 0)
        (xm_cL (X_Mod_no d (-3) σ2) (fun r6 σ5 => some (some (.long r6), σ5)))
        (xm_cL (X_Mod_part d (σ2.2 39 37) (σ2.2 39 38) x2 σ2) (fun r4 σ3 => some (some (.long r4), σ3))))))) := (xm_it_eq [] 25).trans rfl
noncomputable def X_Mod_share (d : Nat) (x1 : Int32) (x2 : Int32) (σ : Sg) : Oz := xm_rn (xm_call d) 2 kc_Mod_share 0 [.ref 39, .int x1, .int x2] [] σ
set_option maxHeartbeats 8000000 in
set_option maxRecDepth 20000 in
theorem X_Mod_share_e (d : Nat) (x1 : Int32) (x2 : Int32) (σ : Sg) : X_Mod_share (d + 1) x1 x2 σ =
  xm_cI (X_Mod_in d x1.toInt64 0 2 σ) (fun r2 σ1 => xm_br (r2 = 0)
    (xm_cL (X_Mod_no d (-2) σ1) (fun r4 σ3 => some (some (.long r4), σ3)))
    (xm_cI (X_Mod_isTwo d x2 σ1) (fun r6 σ5 => xm_br (r6 = 0)
      (xm_cL (X_Mod_no d (-2) σ5) (fun r8 σ7 => some (some (.long r8), σ7)))
      (xm_cL (X_Mod_shareOf d x1 x2 σ5) (fun r10 σ9 => some (some (.long r10), σ9)))))) := (xm_it_eq [] 16).trans rfl
noncomputable def X_Mod_bounds (d : Nat) (x1 : Int32) (x2 : Int32) (x3 : Int32) (σ : Sg) : Oz := xm_rn (xm_call d) 2 kc_Mod_bounds 0 [.ref 39, .int x1, .int x2, .int x3] [] σ
set_option maxHeartbeats 8000000 in
set_option maxRecDepth 20000 in
theorem X_Mod_bounds_e (d : Nat) (x1 : Int32) (x2 : Int32) (x3 : Int32) (σ : Sg) : X_Mod_bounds (d + 1) x1 x2 x3 σ =
  xm_cI (X_Mod_in d x1.toInt64 0 5 σ) (fun r2 σ1 => xm_br (r2 = 0)
    (xm_cL (X_Mod_no d (-2) σ1) (fun r4 σ3 => some (some (.long r4), σ3)))
    (xm_cI (X_Mod_isTwo d x2 σ1) (fun r6 σ5 => xm_br (r6 = 0)
      (xm_cL (X_Mod_no d (-2) σ5) (fun r8 σ7 => some (some (.long r8), σ7)))
      (xm_cI (X_Mod_isTwo d x3 σ5) (fun r10 σ9 => xm_br (r10 = 0)
        (xm_cL (X_Mod_no d (-2) σ9) (fun r23 σ22 => some (some (.long r23), σ22)))
        (xm_cV (X_Mod_findCounts d σ9) (fun σ11 => xm_br (x2 = 0)
          (xm_cV (X_Mod_byTies d x1 (-1) σ11) (fun σ17 => xm_br ((lg_cmp (σ17.2 39 38) 0) = 0)
            (xm_cL (X_Mod_no d (-3) σ17) (fun r21 σ20 => some (some (.long r21), σ20)))
            (xm_cL (X_Mod_part d (σ17.2 39 37) (σ17.2 39 38) x3 σ17) (fun r19 σ18 => some (some (.long r19), σ18)))))
          (xm_cV (X_Mod_byTies d (-x1) (-1) σ11) (fun σ12 => xm_br ((lg_cmp (σ12.2 39 38) 0) = 0)
            (xm_cL (X_Mod_no d (-3) σ12) (fun r16 σ15 => some (some (.long r16), σ15)))
            (xm_cL (X_Mod_part d (σ12.2 39 37) (σ12.2 39 38) x3 σ12) (fun r14 σ13 => some (some (.long r14), σ13)))))))))))) := (xm_it_eq [] 34).trans rfl
noncomputable def X_Mod_trees (d : Nat)  (σ : Sg) : Oz := xm_rn (xm_call d) 1 kc_Mod_trees 0 [.ref 39, .null, .null] [] σ
noncomputable def X_Mod_trees_4 (d : Nat) (x1 : Int32) (x2 : Int32) (σ : Sg) : Oz := xm_rn (xm_call d) 1 kc_Mod_trees 4 [.ref 39, .int x1, .int x2] [] σ
set_option maxHeartbeats 8000000 in
set_option maxRecDepth 20000 in
theorem X_Mod_trees_e (d : Nat)  (σ : Sg) : X_Mod_trees d σ =
  X_Mod_trees_4 d 0 0 σ := (xm_it_eq [4] 5).trans rfl
set_option maxHeartbeats 8000000 in
set_option maxRecDepth 20000 in
theorem X_Mod_trees_4_e (d : Nat) (x1 : Int32) (x2 : Int32) (σ : Sg) : X_Mod_trees_4 d x1 x2 σ =
  xm_br ((σ.1 39 26) ≤ x2)
    (some (some (.int x1), σ))
    (xm_ix x2 24 (fun j1 => xm_br ((σ.1 64 j1) = 0)
      (X_Mod_trees_4 d (x1 + 0) (x2 + 1) σ)
      (xm_ix x2 24 (fun j2 => xm_br ((σ.1 56 j2) = (-1))
        (X_Mod_trees_4 d (x1 + 1) (x2 + 1) σ)
        (X_Mod_trees_4 d (x1 + 0) (x2 + 1) σ))))) := (xm_it_eq [4] 23).trans rfl
noncomputable def X_Mod_isLess (d : Nat) (x0 : Int64) (x2 : Int64) (x4 : Int64) (x6 : Int64) (σ : Sg) : Oz := xm_rn (xm_call d) 3 kc_Mod_isLess 0 [.long x0, .null, .long x2, .null, .long x4, .null, .long x6, .null, .null, .null, .null, .null, .null, .null, .null, .null, .null, .null, .null, .null, .null] [] σ
noncomputable def X_Mod_isLess_17 (d : Nat) (x8 : Int64) (x10 : Int64) (x12 : Int64) (x14 : Int64) (x16 : Int32) (σ : Sg) : Oz := xm_rn (xm_call d) 3 kc_Mod_isLess 17 [.null, .null, .null, .null, .null, .null, .null, .null, .long x8, .null, .long x10, .null, .long x12, .null, .long x14, .null, .int x16, .null, .null, .null, .null] [] σ
noncomputable def X_Mod_isLess_90 (d : Nat) (x8 : Int64) (x10 : Int64) (x12 : Int64) (x14 : Int64) (x16 : Int32) (σ : Sg) : Oz := xm_rn (xm_call d) 3 kc_Mod_isLess 90 [.null, .null, .null, .null, .null, .null, .null, .null, .long x8, .null, .long x10, .null, .long x12, .null, .long x14, .null, .int x16, .null, .null, .null, .null] [] σ
noncomputable def X_Mod_isLess_106 (d : Nat) (x8 : Int64) (x10 : Int64) (x12 : Int64) (x14 : Int64) (x16 : Int32) (σ : Sg) : Oz := xm_rn (xm_call d) 3 kc_Mod_isLess 106 [.null, .null, .null, .null, .null, .null, .null, .null, .long x8, .null, .long x10, .null, .long x12, .null, .long x14, .null, .int x16, .null, .null, .null, .null] [] σ
noncomputable def X_Mod_isLess_134 (d : Nat) (x16 : Int32) (σ : Sg) : Oz := xm_rn (xm_call d) 3 kc_Mod_isLess 134 [.null, .null, .null, .null, .null, .null, .null, .null, .null, .null, .null, .null, .null, .null, .null, .null, .int x16, .null, .null, .null, .null] [] σ
noncomputable def X_Mod_isLess_138 (d : Nat) (x16 : Int32) (σ : Sg) : Oz := xm_rn (xm_call d) 3 kc_Mod_isLess 138 [.null, .null, .null, .null, .null, .null, .null, .null, .null, .null, .null, .null, .null, .null, .null, .null, .int x16, .null, .null, .null, .null] [] σ
noncomputable def X_Mod_isLess_139 (d : Nat) (x16 : Int32) (s0 : Int32) (σ : Sg) : Oz := xm_rn (xm_call d) 3 kc_Mod_isLess 139 [.null, .null, .null, .null, .null, .null, .null, .null, .null, .null, .null, .null, .null, .null, .null, .null, .int x16, .null, .null, .null, .null] [.int s0] σ
noncomputable def X_Mod_isLess_153 (d : Nat) (s0 : Int32) (σ : Sg) : Oz := xm_rn (xm_call d) 3 kc_Mod_isLess 153 [.null, .null, .null, .null, .null, .null, .null, .null, .null, .null, .null, .null, .null, .null, .null, .null, .null, .null, .null, .null, .null] [.int s0] σ
set_option maxHeartbeats 8000000 in
set_option maxRecDepth 20000 in
theorem X_Mod_isLess_e (d : Nat) (x0 : Int64) (x2 : Int64) (x4 : Int64) (x6 : Int64) (σ : Sg) : X_Mod_isLess d x0 x2 x4 x6 σ =
  X_Mod_isLess_17 d x0 x2 x4 x6 0 σ := (xm_it_eq [17, 90, 106, 134, 138, 139, 153] 11).trans rfl
set_option maxHeartbeats 8000000 in
set_option maxRecDepth 20000 in
theorem X_Mod_isLess_17_e (d : Nat) (x8 : Int64) (x10 : Int64) (x12 : Int64) (x14 : Int64) (x16 : Int32) (σ : Sg) : X_Mod_isLess_17 d x8 x10 x12 x14 x16 σ =
  xm_br ((lg_cmp x10 0) = 0)
    (X_Mod_isLess_90 d x8 x10 x12 x14 x16 σ)
    (xm_br ((lg_cmp x14 0) = 0)
      (X_Mod_isLess_90 d x8 x10 x12 x14 x16 σ)
      (xm_dvL x10 (xm_dvL x14 (xm_br ((lg_cmp (x8 / x10) (x12 / x14)) = 0)
        (xm_dvL x10 (xm_dvL x14 (xm_br (x16 = 0)
          (X_Mod_isLess_17 d x10 (x8 - x8 / x10 * x10) x14 (x12 - x12 / x14 * x14) 1 σ)
          (X_Mod_isLess_17 d x10 (x8 - x8 / x10 * x10) x14 (x12 - x12 / x14 * x14) 0 σ))))
        (X_Mod_isLess_90 d x8 x10 x12 x14 x16 σ))))) := (xm_it_eq [17, 90, 106, 134, 138, 139, 153] 39).trans rfl
set_option maxHeartbeats 8000000 in
set_option maxRecDepth 20000 in
theorem X_Mod_isLess_90_e (d : Nat) (x8 : Int64) (x10 : Int64) (x12 : Int64) (x14 : Int64) (x16 : Int32) (σ : Sg) : X_Mod_isLess_90 d x8 x10 x12 x14 x16 σ =
  xm_br ((lg_cmp x10 0) = 0)
    (xm_br ((lg_cmp x14 0) = 0)
      (some (some (.int 0), σ))
      (X_Mod_isLess_106 d x8 x10 x12 x14 x16 σ))
    (X_Mod_isLess_106 d x8 x10 x12 x14 x16 σ) := (xm_it_eq [17, 90, 106, 134, 138, 139, 153] 11).trans rfl
set_option maxHeartbeats 8000000 in
set_option maxRecDepth 20000 in
theorem X_Mod_isLess_106_e (d : Nat) (x8 : Int64) (x10 : Int64) (x12 : Int64) (x14 : Int64) (x16 : Int32) (σ : Sg) : X_Mod_isLess_106 d x8 x10 x12 x14 x16 σ =
  xm_br ((lg_cmp x10 0) = 0)
    (X_Mod_isLess_138 d x16 σ)
    (xm_br ((lg_cmp x14 0) = 0)
      (X_Mod_isLess_134 d x16 σ)
      (xm_dvL x10 (xm_dvL x14 (xm_br (0 ≤ (lg_cmp (x8 / x10) (x12 / x14)))
        (X_Mod_isLess_138 d x16 σ)
        (X_Mod_isLess_134 d x16 σ))))) := (xm_it_eq [17, 90, 106, 134, 138, 139, 153] 17).trans rfl
set_option maxHeartbeats 8000000 in
set_option maxRecDepth 20000 in
theorem X_Mod_isLess_134_e (d : Nat) (x16 : Int32) (σ : Sg) : X_Mod_isLess_134 d x16 σ =
  X_Mod_isLess_139 d x16 1 σ := (xm_it_eq [17, 90, 106, 134, 138, 139, 153] 3).trans rfl
set_option maxHeartbeats 8000000 in
set_option maxRecDepth 20000 in
theorem X_Mod_isLess_138_e (d : Nat) (x16 : Int32) (σ : Sg) : X_Mod_isLess_138 d x16 σ =
  X_Mod_isLess_139 d x16 0 σ := (xm_it_eq [17, 90, 106, 134, 138, 139, 153] 2).trans rfl
set_option maxHeartbeats 8000000 in
set_option maxRecDepth 20000 in
theorem X_Mod_isLess_139_e (d : Nat) (x16 : Int32) (s0 : Int32) (σ : Sg) : X_Mod_isLess_139 d x16 s0 σ =
  xm_br (s0 = x16)
    (X_Mod_isLess_153 d 0 σ)
    (X_Mod_isLess_153 d 1 σ) := (xm_it_eq [17, 90, 106, 134, 138, 139, 153] 7).trans rfl
set_option maxHeartbeats 8000000 in
set_option maxRecDepth 20000 in
theorem X_Mod_isLess_153_e (d : Nat) (s0 : Int32) (σ : Sg) : X_Mod_isLess_153 d s0 σ =
  xm_bo s0 (some (some (.int s0), σ)) := (xm_it_eq [17, 90, 106, 134, 138, 139, 153] 2).trans rfl
noncomputable def X_Mod_leaving (d : Nat) (x1 : Int32) (x2 : Int32) (σ : Sg) : Oz := xm_rn (xm_call d) 2 kc_Mod_leaving 0 [.ref 39, .int x1, .int x2, .null, .null, .null, .null, .null, .null] [] σ
noncomputable def X_Mod_leaving_46 (d : Nat) (x1 : Int32) (x2 : Int32) (x3 : Int64) (x5 : Int64) (x7 : Int32) (σ : Sg) : Oz := xm_rn (xm_call d) 2 kc_Mod_leaving 46 [.ref 39, .int x1, .int x2, .long x3, .null, .long x5, .null, .int x7, .null] [] σ
noncomputable def X_Mod_leaving_136 (d : Nat) (x1 : Int32) (x2 : Int32) (x3 : Int64) (x5 : Int64) (x7 : Int32) (s0 : Int32) (σ : Sg) : Oz := xm_rn (xm_call d) 2 kc_Mod_leaving 136 [.ref 39, .int x1, .int x2, .long x3, .null, .long x5, .null, .int x7, .null] [.int s0] σ
noncomputable def X_Mod_leaving_163 (d : Nat) (x1 : Int32) (x2 : Int32) (x3 : Int64) (x5 : Int64) (x7 : Int32) (σ : Sg) : Oz := xm_rn (xm_call d) 2 kc_Mod_leaving 163 [.ref 39, .int x1, .int x2, .long x3, .null, .long x5, .null, .int x7, .null] [] σ
set_option maxHeartbeats 8000000 in
set_option maxRecDepth 20000 in
theorem X_Mod_leaving_e (d : Nat) (x1 : Int32) (x2 : Int32) (σ : Sg) : X_Mod_leaving (d + 1) x1 x2 σ =
  xm_cI (X_Mod_isTwo d x1 σ) (fun r2 σ1 => xm_br (r2 = 0)
    (xm_cL (X_Mod_no d (-2) σ1) (fun r4 σ3 => some (some (.long r4), σ3)))
    (xm_cI (X_Mod_isTwo d x2 σ1) (fun r6 σ5 => xm_br (r6 = 0)
      (xm_cL (X_Mod_no d (-2) σ5) (fun r13 σ12 => some (some (.long r13), σ12)))
      (xm_cV (X_Mod_findCounts d σ5) (fun σ7 => xm_cI (X_Mod_trees d σ7) (fun r9 σ8 => xm_br (2 ≤ r9)
        (X_Mod_leaving_46 (d + 1) x1 x2 0 0 0 σ8)
        (xm_cL (X_Mod_no d (-3) σ8) (fun r11 σ10 => some (some (.long r11), σ10))))))))) := (xm_it_eq [46, 136, 163] 19).trans rfl
set_option maxHeartbeats 8000000 in
set_option maxRecDepth 20000 in
theorem X_Mod_leaving_46_e (d : Nat) (x1 : Int32) (x2 : Int32) (x3 : Int64) (x5 : Int64) (x7 : Int32) (σ : Sg) : X_Mod_leaving_46 (d + 1) x1 x2 x3 x5 x7 σ =
  xm_br ((σ.1 39 26) ≤ x7)
    (xm_br ((lg_cmp x5 0) = 0)
      (xm_cL (X_Mod_no d (-3) σ) (fun r4 σ3 => some (some (.long r4), σ3)))
      (xm_cL (X_Mod_part d x3 x5 x2 σ) (fun r2 σ1 => some (some (.long r2), σ1))))
    (xm_ix x7 24 (fun j5 => xm_br ((σ.1 64 j5) = 0)
      (X_Mod_leaving_163 (d + 1) x1 x2 x3 x5 x7 σ)
      (xm_ix x7 24 (fun j6 => xm_br ((σ.1 56 j6) = (-1))
        (xm_cV (X_Mod_byTies d 0 x7 σ) (fun σ7 => xm_br ((lg_cmp x5 0) = 0)
          (X_Mod_leaving_136 (d + 1) x1 x2 x3 x5 x7 1 σ7)
          (xm_br (x1 = 0)
            (xm_cI (X_Mod_isLess d (σ7.2 39 37) (σ7.2 39 38) x3 x5 σ7) (fun r11 σ10 => xm_br (r11 = 0)
              (X_Mod_leaving_136 (d + 1) x1 x2 x3 x5 x7 0 σ10)
              (X_Mod_leaving_136 (d + 1) x1 x2 x3 x5 x7 1 σ10)))
            (xm_cI (X_Mod_isLess d x3 x5 (σ7.2 39 37) (σ7.2 39 38) σ7) (fun r9 σ8 => xm_br (r9 = 0)
              (X_Mod_leaving_136 (d + 1) x1 x2 x3 x5 x7 0 σ8)
              (X_Mod_leaving_136 (d + 1) x1 x2 x3 x5 x7 1 σ8))))))
        (X_Mod_leaving_163 (d + 1) x1 x2 x3 x5 x7 σ))))) := (xm_it_eq [46, 136, 163] 37).trans rfl
set_option maxHeartbeats 8000000 in
set_option maxRecDepth 20000 in
theorem X_Mod_leaving_136_e (d : Nat) (x1 : Int32) (x2 : Int32) (x3 : Int64) (x5 : Int64) (x7 : Int32) (s0 : Int32) (σ : Sg) : X_Mod_leaving_136 d x1 x2 x3 x5 x7 s0 σ =
  xm_br ((lg_cmp (σ.2 39 38) 0) ≤ 0)
    (X_Mod_leaving_163 d x1 x2 x3 x5 x7 σ)
    (xm_br (s0 = 0)
      (X_Mod_leaving_163 d x1 x2 x3 x5 x7 σ)
      (X_Mod_leaving_163 d x1 x2 (σ.2 39 37) (σ.2 39 38) x7 σ)) := (xm_it_eq [46, 136, 163] 15).trans rfl
set_option maxHeartbeats 8000000 in
set_option maxRecDepth 20000 in
theorem X_Mod_leaving_163_e (d : Nat) (x1 : Int32) (x2 : Int32) (x3 : Int64) (x5 : Int64) (x7 : Int32) (σ : Sg) : X_Mod_leaving_163 d x1 x2 x3 x5 x7 σ =
  X_Mod_leaving_46 d x1 x2 x3 x5 (x7 + 1) σ := (xm_it_eq [46, 136, 163] 3).trans rfl
noncomputable def X_Mod_findWho (d : Nat)  (σ : Sg) : Oz := xm_rn (xm_call d) 0 kc_Mod_findWho 0 [.ref 39, .null] [] σ
noncomputable def X_Mod_findWho_11 (d : Nat) (x1 : Int32) (σ : Sg) : Oz := xm_rn (xm_call d) 0 kc_Mod_findWho 11 [.ref 39, .int x1] [] σ
set_option maxHeartbeats 8000000 in
set_option maxRecDepth 20000 in
theorem X_Mod_findWho_e (d : Nat)  (σ : Sg) : X_Mod_findWho (d + 1) σ =
  xm_cV (X_Mod_findCounts d σ) (fun σ1 => X_Mod_findWho_11 (d + 1) 0 (xm_sI σ1 39 45 0)) := (xm_it_eq [11] 8).trans rfl
set_option maxHeartbeats 8000000 in
set_option maxRecDepth 20000 in
theorem X_Mod_findWho_11_e (d : Nat) (x1 : Int32) (σ : Sg) : X_Mod_findWho_11 d x1 σ =
  xm_br ((σ.1 39 26) ≤ x1)
    (some (none, σ))
    (xm_ix x1 24 (fun j1 => xm_br ((σ.1 64 j1) = 0)
      (X_Mod_findWho_11 d (x1 + 1) σ)
      (xm_ix (σ.1 39 45) 24 (fun j2 => xm_ix x1 24 (fun j3 => X_Mod_findWho_11 d (x1 + 1) (xm_sI (xm_sI (xm_sI σ 65 j2 x1) 66 j3 (σ.1 39 45)) 39 45 ((σ.1 39 45) + 1))))))) := (xm_it_eq [11] 30).trans rfl
noncomputable def X_Mod_kindBits (d : Nat)  (σ : Sg) : Oz := xm_rn (xm_call d) 1 kc_Mod_kindBits 0 [.ref 39, .null, .null] [] σ
noncomputable def X_Mod_kindBits_4 (d : Nat) (x1 : Int32) (x2 : Int32) (σ : Sg) : Oz := xm_rn (xm_call d) 1 kc_Mod_kindBits 4 [.ref 39, .int x1, .int x2] [] σ
set_option maxHeartbeats 8000000 in
set_option maxRecDepth 20000 in
theorem X_Mod_kindBits_e (d : Nat)  (σ : Sg) : X_Mod_kindBits d σ =
  X_Mod_kindBits_4 d 0 0 σ := (xm_it_eq [4] 5).trans rfl
set_option maxHeartbeats 8000000 in
set_option maxRecDepth 20000 in
theorem X_Mod_kindBits_4_e (d : Nat) (x1 : Int32) (x2 : Int32) (σ : Sg) : X_Mod_kindBits_4 d x1 x2 σ =
  xm_br ((σ.1 39 45) ≤ x2)
    (some (some (.int x1), σ))
    (xm_ix x2 24 (fun j1 => xm_ix (σ.1 65 j1) 24 (fun j2 => X_Mod_kindBits_4 d (x1 ||| ((σ.1 57 j2) <<< (x2 &&& 31))) (x2 + 1) σ))) := (xm_it_eq [4] 19).trans rfl
noncomputable def X_Mod_likes (d : Nat) (x1 : Int32) (σ : Sg) : Oz := xm_rn (xm_call d) 1 kc_Mod_likes 0 [.ref 39, .int x1, .null, .null, .null] [] σ
noncomputable def X_Mod_likes_4 (d : Nat) (x1 : Int32) (x2 : Int32) (x3 : Int32) (σ : Sg) : Oz := xm_rn (xm_call d) 1 kc_Mod_likes 4 [.ref 39, .int x1, .int x2, .int x3, .null] [] σ
set_option maxHeartbeats 8000000 in
set_option maxRecDepth 20000 in
theorem X_Mod_likes_e (d : Nat) (x1 : Int32) (σ : Sg) : X_Mod_likes d x1 σ =
  X_Mod_likes_4 d x1 0 0 σ := (xm_it_eq [4] 5).trans rfl
set_option maxHeartbeats 8000000 in
set_option maxRecDepth 20000 in
theorem X_Mod_likes_4_e (d : Nat) (x1 : Int32) (x2 : Int32) (x3 : Int32) (σ : Sg) : X_Mod_likes_4 d x1 x2 x3 σ =
  xm_br ((σ.1 39 45) ≤ x3)
    (some (some (.int x2), σ))
    (xm_ix x3 24 (fun j1 => xm_ix (σ.1 65 j1) 24 (fun j2 => xm_br ((σ.1 56 j2) = (-1))
      (X_Mod_likes_4 d x1 (x2 + 0) (x3 + 1) σ)
      (xm_ix (σ.1 56 j2) 24 (fun j3 => xm_br (((x1 >>> (x3 &&& 31)) &&& 1) = ((x1 >>> ((σ.1 66 j3) &&& 31)) &&& 1))
        (X_Mod_likes_4 d x1 (x2 + 1) (x3 + 1) σ)
        (X_Mod_likes_4 d x1 (x2 + 0) (x3 + 1) σ)))))) := (xm_it_eq [4] 37).trans rfl
