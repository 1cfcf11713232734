noncomputable def X_Arr_fillI_c37 (d : Nat) (x1 : Int32) (σ : Sg) : Oz := xm_rn (xm_call d) 0 kc_Arr_fillI 0 [.ref 37, .int x1, .null, .null] [] σ
noncomputable def X_Arr_fillI_c37_5 (d : Nat) (x1 : Int32) (x2 : Int32) (x3 : Int32) (σ : Sg) : Oz := xm_rn (xm_call d) 0 kc_Arr_fillI 5 [.ref 37, .int x1, .int x2, .int x3] [] σ
set_option maxHeartbeats 8000000 in
set_option maxRecDepth 20000 in
theorem X_Arr_fillI_c37_e (d : Nat) (x1 : Int32) (σ : Sg) : X_Arr_fillI_c37 d x1 σ =
  X_Arr_fillI_c37_5 d x1 0 60 σ := (xm_it_eq [5] 6).trans rfl
set_option maxHeartbeats 8000000 in
set_option maxRecDepth 20000 in
theorem X_Arr_fillI_c37_5_e (d : Nat) (x1 : Int32) (x2 : Int32) (x3 : Int32) (σ : Sg) : X_Arr_fillI_c37_5 d x1 x2 x3 σ =
  xm_br (x3 ≤ x2)
    (some (none, σ))
    (xm_ix x2 60 (fun j1 => X_Arr_fillI_c37_5 d x1 (x2 + 1) x3 (xm_sI σ 37 j1 x1))) := (xm_it_eq [5] 10).trans rfl
noncomputable def X_Arr_fillI_c38 (d : Nat) (x1 : Int32) (σ : Sg) : Oz := xm_rn (xm_call d) 0 kc_Arr_fillI 0 [.ref 38, .int x1, .null, .null] [] σ
noncomputable def X_Arr_fillI_c38_5 (d : Nat) (x1 : Int32) (x2 : Int32) (x3 : Int32) (σ : Sg) : Oz := xm_rn (xm_call d) 0 kc_Arr_fillI 5 [.ref 38, .int x1, .int x2, .int x3] [] σ
set_option maxHeartbeats 8000000 in
set_option maxRecDepth 20000 in
theorem X_Arr_fillI_c38_e (d : Nat) (x1 : Int32) (σ : Sg) : X_Arr_fillI_c38 d x1 σ =
  X_Arr_fillI_c38_5 d x1 0 60 σ := (xm_it_eq [5] 6).trans rfl
set_option maxHeartbeats 8000000 in
set_option maxRecDepth 20000 in
theorem X_Arr_fillI_c38_5_e (d : Nat) (x1 : Int32) (x2 : Int32) (x3 : Int32) (σ : Sg) : X_Arr_fillI_c38_5 d x1 x2 x3 σ =
  xm_br (x3 ≤ x2)
    (some (none, σ))
    (xm_ix x2 60 (fun j1 => X_Arr_fillI_c38_5 d x1 (x2 + 1) x3 (xm_sI σ 38 j1 x1))) := (xm_it_eq [5] 10).trans rfl
noncomputable def X_Sheets_renew (d : Nat) (x1 : Int32) (x2 : Int32) (x3 : Int32) (σ : Sg) : Oz := xm_rn (xm_call d) 0 kc_Sheets_renew 0 [.ref 31, .int x1, .int x2, .int x3] [] σ
set_option maxHeartbeats 8000000 in
set_option maxRecDepth 20000 in
theorem X_Sheets_renew_e (d : Nat) (x1 : Int32) (x2 : Int32) (x3 : Int32) (σ : Sg) : X_Sheets_renew (d + 1) x1 x2 x3 σ =
  xm_ix x1 4 (fun j1 => xm_ix x1 4 (fun j2 => xm_br (x1 = 0)
    (xm_cV (X_Arr_fillI_c35 d 0 (xm_sI (xm_sI σ 32 j1 x2) 33 j2 x3)) (fun σ3 => some (none, σ3)))
    (xm_br (x1 = 1)
    (xm_cV (X_Arr_fillI_c36 d 0 (xm_sI (xm_sI σ 32 j1 x2) 33 j2 x3)) (fun σ4 => some (none, σ4)))
    (xm_br (x1 = 2)
    (xm_cV (X_Arr_fillI_c37 d 0 (xm_sI (xm_sI σ 32 j1 x2) 33 j2 x3)) (fun σ5 => some (none, σ5)))
    (xm_br (x1 = 3)
    (xm_cV (X_Arr_fillI_c38 d 0 (xm_sI (xm_sI σ 32 j1 x2) 33 j2 x3)) (fun σ6 => some (none, σ6)))
    (none)))))) := (xm_it_eq [] 18).trans rfl
noncomputable def X_TO_sheet (d : Nat) (x1 : Int32) (x2 : Int32) (x3 : Int32) (σ : Sg) : Oz := xm_rn (xm_call d) 1 kc_TO_sheet 0 [.ref 0, .int x1, .int x2, .int x3] [] σ
set_option maxHeartbeats 8000000 in
set_option maxRecDepth 20000 in
theorem X_TO_sheet_e (d : Nat) (x1 : Int32) (x2 : Int32) (x3 : Int32) (σ : Sg) : X_TO_sheet (d + 1) x1 x2 x3 σ =
  xm_cI (X_Sheets_holds d x1 σ) (fun r2 σ1 => xm_br (r2 = 0)
    (some (some (.int (-2)), σ1))
    (xm_cI (X_Sheets_isForm d x2 σ1) (fun r4 σ3 => xm_br (r4 = 0)
      (some (some (.int (-2)), σ3))
      (xm_br (x3 ≤ 60)
        (xm_br (0 ≤ x3)
          (xm_cV (X_Sheets_renew d x1 x2 x3 σ3) (fun σ5 => some (some (.int x3), σ5)))
          (xm_cI (X_Sheets_finding d 5 σ3) (fun r7 σ6 => some (some (.int r7), σ6))))
        (some (some (.int (-2)), σ3)))))) := (xm_it_eq [] 22).trans rfl
noncomputable def X_TO_lose (d : Nat) (x1 : Int32) (σ : Sg) : Oz := xm_rn (xm_call d) 1 kc_TO_lose 0 [.ref 0, .int x1] [] σ
set_option maxHeartbeats 8000000 in
set_option maxRecDepth 20000 in
theorem X_TO_lose_e (d : Nat) (x1 : Int32) (σ : Sg) : X_TO_lose (d + 1) x1 σ =
  xm_cI (X_Sheets_holds d x1 σ) (fun r2 σ1 => xm_br (r2 = 0)
    (some (some (.int (-2)), σ1))
    (xm_cI (X_Sheets_isLost d x1 σ1) (fun r4 σ3 => xm_br (r4 = 0)
      (xm_ix x1 4 (fun j5 => xm_ix x1 4 (fun j6 => some (some (.int (σ3.1 33 j6)), (xm_sI σ3 32 j5 (-1))))))
      (xm_cI (X_Sheets_finding d 1 σ3) (fun r8 σ7 => some (some (.int r8), σ7)))))) := (xm_it_eq [] 23).trans rfl
noncomputable def X_Sheets_faultOf (d : Nat) (x1 : Int32) (x2 : Int32) (x3 : Int32) (σ : Sg) : Oz := xm_rn (xm_call d) 1 kc_Sheets_faultOf 0 [.ref 31, .int x1, .int x2, .int x3] [] σ
set_option maxHeartbeats 8000000 in
set_option maxRecDepth 20000 in
theorem X_Sheets_faultOf_e (d : Nat) (x1 : Int32) (x2 : Int32) (x3 : Int32) (σ : Sg) : X_Sheets_faultOf (d + 1) x1 x2 x3 σ =
  xm_cI (X_Sheets_isLost d x1 σ) (fun r2 σ1 => xm_br (r2 = 0)
    (xm_ix x1 4 (fun j3 => xm_br ((σ1.1 32 j3) = x2)
      (xm_br (x3 < 0)
        (some (some (.int 2), σ1))
        (xm_ix x1 4 (fun j4 => xm_br (x3 < (σ1.1 33 j4))
          (some (some (.int 0), σ1))
          (some (some (.int 2), σ1)))))
      (some (some (.int 3), σ1))))
    (some (some (.int 1), σ1))) := (xm_it_eq [] 22).trans rfl
noncomputable def X_Sheets_put (d : Nat) (x1 : Int32) (x2 : Int32) (x3 : Int32) (σ : Sg) : Oz := xm_rn (xm_call d) 0 kc_Sheets_put 0 [.ref 31, .int x1, .int x2, .int x3] [] σ
noncomputable def X_Sheets_put_54 (d : Nat)  (σ : Sg) : Oz := xm_rn (xm_call d) 0 kc_Sheets_put 54 [.null, .null, .null, .null] [] σ
set_option maxHeartbeats 8000000 in
set_option maxRecDepth 20000 in
theorem X_Sheets_put_e (d : Nat) (x1 : Int32) (x2 : Int32) (x3 : Int32) (σ : Sg) : X_Sheets_put d x1 x2 x3 σ =
  xm_ix x1 4 (fun j1 => xm_br ((σ.1 32 j1) = 0)
    (xm_br (x1 = 0)
      (xm_ix x2 60 (fun j11 => X_Sheets_put_54 d (xm_sI σ 35 j11 x3.toInt8.toInt32)))
      (xm_br (x1 = 1)
      (xm_ix x2 60 (fun j12 => X_Sheets_put_54 d (xm_sI σ 36 j12 x3.toInt8.toInt32)))
      (xm_br (x1 = 2)
      (xm_ix x2 60 (fun j13 => X_Sheets_put_54 d (xm_sI σ 37 j13 x3.toInt8.toInt32)))
      (xm_br (x1 = 3)
      (xm_ix x2 60 (fun j14 => X_Sheets_put_54 d (xm_sI σ 38 j14 x3.toInt8.toInt32)))
      (none)))))
    (xm_ix x1 4 (fun j2 => xm_br ((σ.1 32 j2) = 1)
      (xm_br (x1 = 0)
        (xm_ix x2 60 (fun j7 => X_Sheets_put_54 d (xm_sI σ 35 j7 x3.toInt16.toInt32)))
        (xm_br (x1 = 1)
        (xm_ix x2 60 (fun j8 => X_Sheets_put_54 d (xm_sI σ 36 j8 x3.toInt16.toInt32)))
        (xm_br (x1 = 2)
        (xm_ix x2 60 (fun j9 => X_Sheets_put_54 d (xm_sI σ 37 j9 x3.toInt16.toInt32)))
        (xm_br (x1 = 3)
        (xm_ix x2 60 (fun j10 => X_Sheets_put_54 d (xm_sI σ 38 j10 x3.toInt16.toInt32)))
        (none)))))
      (xm_br (x1 = 0)
        (xm_ix x2 60 (fun j3 => X_Sheets_put_54 d (xm_sI σ 35 j3 x3)))
        (xm_br (x1 = 1)
        (xm_ix x2 60 (fun j4 => X_Sheets_put_54 d (xm_sI σ 36 j4 x3)))
        (xm_br (x1 = 2)
        (xm_ix x2 60 (fun j5 => X_Sheets_put_54 d (xm_sI σ 37 j5 x3)))
        (xm_br (x1 = 3)
        (xm_ix x2 60 (fun j6 => X_Sheets_put_54 d (xm_sI σ 38 j6 x3)))
        (none)))))))) := (xm_it_eq [54] 21).trans rfl
set_option maxHeartbeats 8000000 in
set_option maxRecDepth 20000 in
theorem X_Sheets_put_54_e (d : Nat)  (σ : Sg) : X_Sheets_put_54 d σ =
  some (none, σ) := (xm_it_eq [54] 2).trans rfl
noncomputable def X_TO_lay (d : Nat) (x1 : Int32) (x2 : Int32) (x3 : Int32) (x4 : Int32) (σ : Sg) : Oz := xm_rn (xm_call d) 1 kc_TO_lay 0 [.ref 0, .int x1, .int x2, .int x3, .int x4, .null] [] σ
set_option maxHeartbeats 8000000 in
set_option maxRecDepth 20000 in
theorem X_TO_lay_e (d : Nat) (x1 : Int32) (x2 : Int32) (x3 : Int32) (x4 : Int32) (σ : Sg) : X_TO_lay (d + 1) x1 x2 x3 x4 σ =
  xm_cI (X_Sheets_holds d x1 σ) (fun r2 σ1 => xm_br (r2 = 0)
    (some (some (.int (-2)), σ1))
    (xm_cI (X_Sheets_isForm d x2 σ1) (fun r4 σ3 => xm_br (r4 = 0)
      (some (some (.int (-2)), σ3))
      (xm_cI (X_Sheets_faultOf d x1 x2 x3 σ3) (fun r6 σ5 => xm_br (r6 = 0)
        (xm_cV (X_Sheets_put d x1 x3 x4 σ5) (fun σ7 => some (some (.int 1), σ7)))
        (xm_cI (X_Sheets_finding d r6 σ5) (fun r9 σ8 => some (some (.int r9), σ8)))))))) := (xm_it_eq [] 26).trans rfl
noncomputable def X_TO_get (d : Nat) (x1 : Int32) (x2 : Int32) (x3 : Int32) (σ : Sg) : Oz := xm_rn (xm_call d) 1 kc_TO_get 0 [.ref 0, .int x1, .int x2, .int x3, .null] [] σ
set_option maxHeartbeats 8000000 in
set_option maxRecDepth 20000 in
theorem X_TO_get_e (d : Nat) (x1 : Int32) (x2 : Int32) (x3 : Int32) (σ : Sg) : X_TO_get (d + 1) x1 x2 x3 σ =
  xm_cI (X_Sheets_holds d x1 σ) (fun r2 σ1 => xm_br (r2 = 0)
    (some (some (.int (-2147483648)), σ1))
    (xm_cI (X_Sheets_isForm d x2 σ1) (fun r4 σ3 => xm_br (r4 = 0)
      (some (some (.int (-2147483648)), σ3))
      (xm_cI (X_Sheets_faultOf d x1 x2 x3 σ3) (fun r6 σ5 => xm_br (r6 = 0)
        (xm_cI (X_Sheets_item d x1 x3 σ5) (fun r8 σ7 => some (some (.int r8), σ7)))
        (xm_cI (X_Sheets_finding d r6 σ5) (fun r10 σ9 => some (some (.int (-2147483648)), σ9)))))))) := (xm_it_eq [] 25).trans rfl
noncomputable def X_Sheets_spans (d : Nat) (x1 : Int32) (x2 : Int32) (x3 : Int32) (σ : Sg) : Oz := xm_rn (xm_call d) 3 kc_Sheets_spans 0 [.ref 31, .int x1, .int x2, .int x3] [] σ
set_option maxHeartbeats 8000000 in
set_option maxRecDepth 20000 in
theorem X_Sheets_spans_e (d : Nat) (x1 : Int32) (x2 : Int32) (x3 : Int32) (σ : Sg) : X_Sheets_spans d x1 x2 x3 σ =
  xm_br (x3 < 0)
    (some (some (.int 0), σ))
    (xm_br (x2 < 0)
      (some (some (.int 0), σ))
      (xm_ix x1 4 (fun j1 => xm_br (((σ.1 33 j1) - x3) < x2)
        (some (some (.int 0), σ))
        (some (some (.int 1), σ))))) := (xm_it_eq [] 16).trans rfl
noncomputable def X_TO_copy (d : Nat) (x1 : Int32) (x2 : Int32) (x3 : Int32) (x4 : Int32) (x5 : Int32) (σ : Sg) : Oz := xm_rn (xm_call d) 1 kc_TO_copy 0 [.ref 0, .int x1, .int x2, .int x3, .int x4, .int x5] [] σ
noncomputable def X_TO_copy_22 (d : Nat)  (σ : Sg) : Oz := xm_rn (xm_call d) 1 kc_TO_copy 22 [.null, .null, .null, .null, .null, .null] [] σ
noncomputable def X_TO_copy_47 (d : Nat)  (σ : Sg) : Oz := xm_rn (xm_call d) 1 kc_TO_copy 47 [.ref 0, .null, .null, .null, .null, .null] [] σ
noncomputable def X_TO_copy_115 (d : Nat)  (σ : Sg) : Oz := xm_rn (xm_call d) 1 kc_TO_copy 115 [.ref 0, .null, .null, .null, .null, .null] [] σ
set_option maxHeartbeats 8000000 in
set_option maxRecDepth 20000 in
theorem X_TO_copy_e (d : Nat) (x1 : Int32) (x2 : Int32) (x3 : Int32) (x4 : Int32) (x5 : Int32) (σ : Sg) : X_TO_copy (d + 1) x1 x2 x3 x4 x5 σ =
  xm_cI (X_Sheets_holds d x1 σ) (fun r2 σ1 => xm_br (r2 = 0)
    (X_TO_copy_22 (d + 1) σ1)
    (xm_cI (X_Sheets_holds d x3 σ1) (fun r4 σ3 => xm_br (r4 = 0)
      (X_TO_copy_22 (d + 1) σ3)
      (xm_cI (X_Sheets_isLost d x1 σ3) (fun r6 σ5 => xm_br (r6 = 0)
        (xm_cI (X_Sheets_isLost d x3 σ5) (fun r8 σ7 => xm_br (r8 = 0)
          (xm_ix x1 4 (fun j9 => xm_ix x3 4 (fun j10 => xm_br ((σ7.1 32 j9) = (σ7.1 32 j10))
            (xm_cI (X_Sheets_spans d x1 x2 x5 σ7) (fun r12 σ11 => xm_br (r12 = 0)
              (X_TO_copy_115 (d + 1) σ11)
              (xm_cI (X_Sheets_spans d x3 x4 x5 σ11) (fun r14 σ13 => xm_br (r14 = 0)
                (X_TO_copy_115 (d + 1) σ13)
                (xm_br (x1 = 0)
                  (xm_br (x3 = 0)
                    (xm_cp x2 x4 x5 60 60 (some (some (.int 1), (xm_yI σ13 35 35 x2.toNatClampNeg x4.toNatClampNeg x5.toNatClampNeg))))
                    (xm_br (x3 = 1)
                    (xm_cp x2 x4 x5 60 60 (some (some (.int 1), (xm_yI σ13 35 36 x2.toNatClampNeg x4.toNatClampNeg x5.toNatClampNeg))))
                    (xm_br (x3 = 2)
                    (xm_cp x2 x4 x5 60 60 (some (some (.int 1), (xm_yI σ13 35 37 x2.toNatClampNeg x4.toNatClampNeg x5.toNatClampNeg))))
                    (xm_br (x3 = 3)
                    (xm_cp x2 x4 x5 60 60 (some (some (.int 1), (xm_yI σ13 35 38 x2.toNatClampNeg x4.toNatClampNeg x5.toNatClampNeg))))
                    (none)))))
                  (xm_br (x1 = 1)
                  (xm_br (x3 = 0)
                    (xm_cp x2 x4 x5 60 60 (some (some (.int 1), (xm_yI σ13 36 35 x2.toNatClampNeg x4.toNatClampNeg x5.toNatClampNeg))))
                    (xm_br (x3 = 1)
                    (xm_cp x2 x4 x5 60 60 (some (some (.int 1), (xm_yI σ13 36 36 x2.toNatClampNeg x4.toNatClampNeg x5.toNatClampNeg))))
                    (xm_br (x3 = 2)
                    (xm_cp x2 x4 x5 60 60 (some (some (.int 1), (xm_yI σ13 36 37 x2.toNatClampNeg x4.toNatClampNeg x5.toNatClampNeg))))
                    (xm_br (x3 = 3)
                    (xm_cp x2 x4 x5 60 60 (some (some (.int 1), (xm_yI σ13 36 38 x2.toNatClampNeg x4.toNatClampNeg x5.toNatClampNeg))))
                    (none)))))
                  (xm_br (x1 = 2)
                  (xm_br (x3 = 0)
                    (xm_cp x2 x4 x5 60 60 (some (some (.int 1), (xm_yI σ13 37 35 x2.toNatClampNeg x4.toNatClampNeg x5.toNatClampNeg))))
                    (xm_br (x3 = 1)
                    (xm_cp x2 x4 x5 60 60 (some (some (.int 1), (xm_yI σ13 37 36 x2.toNatClampNeg x4.toNatClampNeg x5.toNatClampNeg))))
                    (xm_br (x3 = 2)
                    (xm_cp x2 x4 x5 60 60 (some (some (.int 1), (xm_yI σ13 37 37 x2.toNatClampNeg x4.toNatClampNeg x5.toNatClampNeg))))
                    (xm_br (x3 = 3)
                    (xm_cp x2 x4 x5 60 60 (some (some (.int 1), (xm_yI σ13 37 38 x2.toNatClampNeg x4.toNatClampNeg x5.toNatClampNeg))))
                    (none)))))
                  (xm_br (x1 = 3)
                  (xm_br (x3 = 0)
                    (xm_cp x2 x4 x5 60 60 (some (some (.int 1), (xm_yI σ13 38 35 x2.toNatClampNeg x4.toNatClampNeg x5.toNatClampNeg))))
                    (xm_br (x3 = 1)
                    (xm_cp x2 x4 x5 60 60 (some (some (.int 1), (xm_yI σ13 38 36 x2.toNatClampNeg x4.toNatClampNeg x5.toNatClampNeg))))
                    (xm_br (x3 = 2)
                    (xm_cp x2 x4 x5 60 60 (some (some (.int 1), (xm_yI σ13 38 37 x2.toNatClampNeg x4.toNatClampNeg x5.toNatClampNeg))))
                    (xm_br (x3 = 3)
                    (xm_cp x2 x4 x5 60 60 (some (some (.int 1), (xm_yI σ13 38 38 x2.toNatClampNeg x4.toNatClampNeg x5.toNatClampNeg))))
                    (none)))))
                  (none)))))))))
            (xm_cI (X_Sheets_finding d 4 σ7) (fun r16 σ15 => some (some (.int r16), σ15))))))
          (X_TO_copy_47 (d + 1) σ7)))
        (X_TO_copy_47 (d + 1) σ5)))))) := (xm_it_eq [22, 47, 115] 62).trans rfl
set_option maxHeartbeats 8000000 in
set_option maxRecDepth 20000 in
theorem X_TO_copy_22_e (d : Nat)  (σ : Sg) : X_TO_copy_22 d σ =
  some (some (.int (-2)), σ) := (xm_it_eq [22, 47, 115] 3).trans rfl
set_option maxHeartbeats 8000000 in
set_option maxRecDepth 20000 in
theorem X_TO_copy_47_e (d : Nat)  (σ : Sg) : X_TO_copy_47 (d + 1) σ =
  xm_cI (X_Sheets_finding d 1 σ) (fun r2 σ1 => some (some (.int r2), σ1)) := (xm_it_eq [22, 47, 115] 6).trans rfl
set_option maxHeartbeats 8000000 in
set_option maxRecDepth 20000 in
theorem X_TO_copy_115_e (d : Nat)  (σ : Sg) : X_TO_copy_115 (d + 1) σ =
  xm_cI (X_Sheets_finding d 2 σ) (fun r2 σ1 => some (some (.int r2), σ1)) := (xm_it_eq [22, 47, 115] 6).trans rfl
noncomputable def X_TO_write (d : Nat) (x1 : Int32) (x2 : Int32) (σ : Sg) : Oz := xm_rn (xm_call d) 1 kc_TO_write 0 [.ref 0, .int x1, .int x2, .null, .null] [] σ
noncomputable def X_TO_write_68 (d : Nat) (x1 : Int32) (x2 : Int32) (x3 : Int32) (x4 : Int32) (σ : Sg) : Oz := xm_rn (xm_call d) 1 kc_TO_write 68 [.ref 0, .int x1, .int x2, .int x3, .int x4] [] σ
set_option maxHeartbeats 8000000 in
set_option maxRecDepth 20000 in
theorem X_TO_write_e (d : Nat) (x1 : Int32) (x2 : Int32) (σ : Sg) : X_TO_write (d + 1) x1 x2 σ =
  xm_cI (X_Net_holds d x1 σ) (fun r2 σ1 => xm_br (r2 = 0)
    (some (some (.int (-2)), σ1))
    (xm_cI (X_Sheets_holds d x2 σ1) (fun r4 σ3 => xm_br (r4 = 0)
      (some (some (.int (-2)), σ3))
      (xm_cI (X_Sheets_isLost d x2 σ3) (fun r6 σ5 => xm_br (r6 = 0)
        (xm_ix x2 4 (fun j7 => X_TO_write_68 (d + 1) x1 x2 (xm_imin (σ5.1 33 j7) (σ5.1 1 1)) 0 σ5))
        (xm_cI (X_Sheets_finding d 1 σ5) (fun r9 σ8 => some (some (.int r9), σ8)))))))) := (xm_it_eq [68] 28).trans rfl
set_option maxHeartbeats 8000000 in
set_option maxRecDepth 20000 in
theorem X_TO_write_68_e (d : Nat) (x1 : Int32) (x2 : Int32) (x3 : Int32) (x4 : Int32) (σ : Sg) : X_TO_write_68 (d + 1) x1 x2 x3 x4 σ =
  xm_br (x3 ≤ x4)
    (some (some (.int x3), σ))
    (xm_cI (X_Net_tied d x1 x4 σ) (fun r2 σ1 => xm_br (r2 = 0)
      (xm_cV (X_Sheets_put d x2 x4 0 σ1) (fun σ3 => X_TO_write_68 (d + 1) x1 x2 x3 (x4 + 1) σ3))
      (xm_cV (X_Sheets_put d x2 x4 1 σ1) (fun σ4 => X_TO_write_68 (d + 1) x1 x2 x3 (x4 + 1) σ4)))) := (xm_it_eq [68] 19).trans rfl
noncomputable def X_Marks_signsOfAll (d : Nat)  (σ : Sg) : Oz := xm_rn (xm_call d) 1 kc_Marks_signsOfAll 0 [.ref 24, .null, .null] [] σ
noncomputable def X_Marks_signsOfAll_4 (d : Nat) (x1 : Int32) (x2 : Int32) (σ : Sg) : Oz := xm_rn (xm_call d) 1 kc_Marks_signsOfAll 4 [.ref 24, .int x1, .int x2] [] σ
set_option maxHeartbeats 8000000 in
set_option maxRecDepth 20000 in
theorem X_Marks_signsOfAll_e (d : Nat)  (σ : Sg) : X_Marks_signsOfAll d σ =
  X_Marks_signsOfAll_4 d 0 0 σ := (xm_it_eq [4] 5).trans rfl
set_option maxHeartbeats 8000000 in
set_option maxRecDepth 20000 in
theorem X_Marks_signsOfAll_4_e (d : Nat) (x1 : Int32) (x2 : Int32) (σ : Sg) : X_Marks_signsOfAll_4 d x1 x2 σ =
  xm_br ((σ.1 9 9) ≤ x2)
    (some (some (.int x1), σ))
    (xm_ix x2 24 (fun j1 => X_Marks_signsOfAll_4 d (x1 + (σ.1 26 j1)) (x2 + 1) σ)) := (xm_it_eq [4] 15).trans rfl
noncomputable def X_TO_count (d : Nat) (x1 : Int32) (σ : Sg) : Oz := xm_rn (xm_call d) 1 kc_TO_count 0 [.ref 0, .int x1] [] σ
set_option maxHeartbeats 8000000 in
set_option maxRecDepth 20000 in
theorem X_TO_count_e (d : Nat) (x1 : Int32) (σ : Sg) : X_TO_count (d + 1) x1 σ =
  xm_br (x1 = 0)
    (some (some (.int (σ.1 1 1)), σ))
    (xm_br (x1 = 1)
    (xm_cI (X_Net_everyone d σ) (fun r2 σ1 => xm_cI (X_Net_degrees d r2 σ1) (fun r4 σ3 => some (some (.int (r4 / 2)), σ3))))
    (xm_br (x1 = 2)
    (some (some (.int (σ.1 1 2)), σ))
    (xm_br (x1 = 3)
    (some (some (.int (σ.1 9 9)), σ))
    (xm_br (x1 = 4)
    (xm_cI (X_Records_counting d σ) (fun r6 σ5 => some (some (.int r6), σ5)))
    (xm_br (x1 = 5)
    (xm_cI (X_Records_inWave d 0 σ) (fun r8 σ7 => some (some (.int r8), σ7)))
    (xm_br (x1 = 6)
    (some (some (.int (σ.1 0 8)), σ))
    (xm_br (x1 = 7)
    (some (some (.int (σ.1 0 9)), σ))
    (xm_br (x1 = 8)
    (some (some (.int (σ.1 31 3)), σ))
    (xm_br (x1 = 9)
    (xm_cI (X_Marks_signsOfAll d σ) (fun r10 σ9 => some (some (.int r10), σ9)))
    (some (some (.int (-2)), σ))))))))))) := (xm_it_eq [] 12).trans rfl
noncomputable def X_TO_digestOfNet (d : Nat) (x1 : Int64) (σ : Sg) : Oz := xm_rn (xm_call d) 2 kc_TO_digestOfNet 0 [.ref 0, .long x1, .null, .null, .null, .null] [] σ
noncomputable def X_TO_digestOfNet_5 (d : Nat) (x3 : Int64) (x5 : Int32) (σ : Sg) : Oz := xm_rn (xm_call d) 2 kc_TO_digestOfNet 5 [.ref 0, .null, .null, .long x3, .null, .int x5] [] σ
set_option maxHeartbeats 8000000 in
set_option maxRecDepth 20000 in
theorem X_TO_digestOfNet_e (d : Nat) (x1 : Int64) (σ : Sg) : X_TO_digestOfNet d x1 σ =
  X_TO_digestOfNet_5 d x1 0 σ := (xm_it_eq [5] 5).trans rfl
set_option maxHeartbeats 8000000 in
set_option maxRecDepth 20000 in
theorem X_TO_digestOfNet_5_e (d : Nat) (x3 : Int64) (x5 : Int32) (σ : Sg) : X_TO_digestOfNet_5 (d + 1) x3 x5 σ =
  xm_br ((σ.1 1 1) ≤ x5)
    (xm_cL (X_TO_within d 10 0 σ) (fun r2 σ1 => xm_cL (X_TO_within d 10 1 σ1) (fun r4 σ3 => some (some (.long ((31 * ((31 * x3) + r2)) + r4)), σ3))))
    (xm_cI (X_TO_about d x5 0 σ) (fun r6 σ5 => xm_cI (X_TO_about d x5 1 σ5) (fun r8 σ7 => xm_cL (X_TO_found d x5 0 σ7) (fun r10 σ9 => xm_cL (X_TO_found d x5 1 σ9) (fun r12 σ11 => X_TO_digestOfNet_5 (d + 1) ((31 * ((31 * ((31 * ((31 * x3) + r6.toInt64)) + r8.toInt64)) + r10)) + r12) (x5 + 1) σ11))))) := (xm_it_eq [5] 46).trans rfl
noncomputable def X_TO_digestOfRecords (d : Nat) (x1 : Int64) (σ : Sg) : Oz := xm_rn (xm_call d) 2 kc_TO_digestOfRecords 0 [.ref 0, .long x1, .null, .null, .null, .null, .null] [] σ
noncomputable def X_TO_digestOfRecords_5 (d : Nat) (x3 : Int64) (x5 : Int32) (σ : Sg) : Oz := xm_rn (xm_call d) 2 kc_TO_digestOfRecords 5 [.ref 0, .null, .null, .long x3, .null, .int x5, .null] [] σ
noncomputable def X_TO_digestOfRecords_20 (d : Nat) (x3 : Int64) (x5 : Int32) (x6 : Int32) (σ : Sg) : Oz := xm_rn (xm_call d) 2 kc_TO_digestOfRecords 20 [.ref 0, .null, .null, .long x3, .null, .int x5, .int x6] [] σ
noncomputable def X_TO_digestOfRecords_58 (d : Nat) (x3 : Int64) (x5 : Int32) (σ : Sg) : Oz := xm_rn (xm_call d) 2 kc_TO_digestOfRecords 58 [.ref 0, .null, .null, .long x3, .null, .int x5, .null] [] σ
set_option maxHeartbeats 8000000 in
set_option maxRecDepth 20000 in
theorem X_TO_digestOfRecords_e (d : Nat) (x1 : Int64) (σ : Sg) : X_TO_digestOfRecords d x1 σ =
  X_TO_digestOfRecords_5 d x1 0 σ := (xm_it_eq [5, 20, 58] 5).trans rfl
set_option maxHeartbeats 8000000 in
set_option maxRecDepth 20000 in
theorem X_TO_digestOfRecords_5_e (d : Nat) (x3 : Int64) (x5 : Int32) (σ : Sg) : X_TO_digestOfRecords_5 d x3 x5 σ =
  xm_br ((σ.1 9 9) ≤ x5)
    (X_TO_digestOfRecords_58 d x3 0 σ)
    (X_TO_digestOfRecords_20 d x3 x5 0 σ) := (xm_it_eq [5, 20, 58] 8).trans rfl
set_option maxHeartbeats 8000000 in
set_option maxRecDepth 20000 in
theorem X_TO_digestOfRecords_20_e (d : Nat) (x3 : Int64) (x5 : Int32) (x6 : Int32) (σ : Sg) : X_TO_digestOfRecords_20 (d + 1) x3 x5 x6 σ =
  xm_br (7 < x6)
    (X_TO_digestOfRecords_5 (d + 1) x3 (x5 + 1) σ)
    (xm_cI (X_TO_record d x5 x6 σ) (fun r2 σ1 => X_TO_digestOfRecords_20 (d + 1) ((31 * x3) + r2.toInt64) x5 (x6 + 1) σ1)) := (xm_it_eq [5, 20, 58] 16).trans rfl
set_option maxHeartbeats 8000000 in
set_option maxRecDepth 20000 in
theorem X_TO_digestOfRecords_58_e (d : Nat) (x3 : Int64) (x5 : Int32) (σ : Sg) : X_TO_digestOfRecords_58 (d + 1) x3 x5 σ =
  xm_br (2 < x5)
    (some (some (.long x3), σ))
    (xm_cL (X_TO_share d x5 0 σ) (fun r2 σ1 => xm_cL (X_TO_share d x5 1 σ1) (fun r4 σ3 => X_TO_digestOfRecords_58 (d + 1) ((31 * ((31 * x3) + r2)) + r4) (x5 + 1) σ3))) := (xm_it_eq [5, 20, 58] 24).trans rfl
noncomputable def X_TO_digest (d : Nat)  (σ : Sg) : Oz := xm_rn (xm_call d) 2 kc_TO_digest 0 [.ref 0, .null, .null, .null] [] σ
noncomputable def X_TO_digest_6 (d : Nat) (x1 : Int64) (x3 : Int32) (σ : Sg) : Oz := xm_rn (xm_call d) 2 kc_TO_digest 6 [.ref 0, .long x1, .null, .int x3] [] σ
noncomputable def X_TO_digest_94 (d : Nat) (x1 : Int64) (x3 : Int32) (σ : Sg) : Oz := xm_rn (xm_call d) 2 kc_TO_digest 94 [.ref 0, .long x1, .null, .int x3] [] σ
set_option maxHeartbeats 8000000 in
set_option maxRecDepth 20000 in
theorem X_TO_digest_e (d : Nat)  (σ : Sg) : X_TO_digest d σ =
  X_TO_digest_6 d 17 0 σ := (xm_it_eq [6, 94] 5).trans rfl
set_option maxHeartbeats 8000000 in
set_option maxRecDepth 20000 in
theorem X_TO_digest_6_e (d : Nat) (x1 : Int64) (x3 : Int32) (σ : Sg) : X_TO_digest_6 (d + 1) x1 x3 σ =
  xm_br (9 < x3)
    (xm_cL (X_TO_digestOfNet d x1 σ) (fun r2 σ1 => xm_cL (X_TO_digestOfRecords d r2 σ1) (fun r4 σ3 => xm_cI (X_TO_alike d 0 σ3) (fun r6 σ5 => xm_cI (X_TO_parts d 0 σ5) (fun r8 σ7 => xm_cI (X_TO_parts d 1 σ7) (fun r10 σ9 => X_TO_digest_94 (d + 1) ((31 * ((31 * ((31 * r4) + r6.toInt64)) + r8.toInt64)) + r10.toInt64) 0 σ9))))))
    (xm_br (x3 = 8)
      (X_TO_digest_6 (d + 1) x1 (x3 + 1) σ)
      (xm_cI (X_TO_count d x3 σ) (fun r12 σ11 => X_TO_digest_6 (d + 1) ((31 * x1) + r12.toInt64) (x3 + 1) σ11))) := (xm_it_eq [6, 94] 41).trans rfl
set_option maxHeartbeats 8000000 in
set_option maxRecDepth 20000 in
theorem X_TO_digest_94_e (d : Nat) (x1 : Int64) (x3 : Int32) (σ : Sg) : X_TO_digest_94 (d + 1) x1 x3 σ =
  xm_br (2 < x3)
    (some (some (.long x1), σ))
    (xm_cL (X_TO_narrow d x3 σ) (fun r2 σ1 => X_TO_digest_94 (d + 1) ((31 * x1) + r2) (x3 + 1) σ1)) := (xm_it_eq [6, 94] 14).trans rfl
noncomputable def X_Mod_in (d : Nat) (x0 : Int64) (x2 : Int64) (x4 : Int64) (σ : Sg) : Oz := xm_rn (xm_call d) 3 kc_Mod_in 0 [.long x0, .null, .long x2, .null, .long x4, .null] [] σ
set_option maxHeartbeats 8000000 in
set_option maxRecDepth 20000 in
theorem X_Mod_in_e (d : Nat) (x0 : Int64) (x2 : Int64) (x4 : Int64) (σ : Sg) : X_Mod_in d x0 x2 x4 σ =
  xm_br ((lg_cmp x0 x2) < 0)
    (some (some (.int 0), σ))
    (xm_br (0 < (lg_cmp x0 x4))
      (some (some (.int 0), σ))
      (some (some (.int 1), σ))) := (xm_it_eq [] 12).trans rfl
noncomputable def X_Mod_isSheet (d : Nat) (x0 : Int32) (σ : Sg) : Oz := xm_rn (xm_call d) 3 kc_Mod_isSheet 0 [.int x0] [] σ
set_option maxHeartbeats 8000000 in
set_option maxRecDepth 20000 in
theorem X_Mod_isSheet_e (d : Nat) (x0 : Int32) (σ : Sg) : X_Mod_isSheet (d + 1) x0 σ =
  xm_cI (X_Mod_in d x0.toInt64 0 3 σ) (fun r2 σ1 => xm_bo r2 (some (some (.int r2), σ1))) := (xm_it_eq [] 7).trans rfl
noncomputable def X_Mod_met (d : Nat) (x1 : Int32) (σ : Sg) : Oz := xm_rn (xm_call d) 1 kc_Mod_met 0 [.ref 39, .int x1] [] σ
set_option maxHeartbeats 8000000 in
set_option maxRecDepth 20000 in
theorem X_Mod_met_e (d : Nat) (x1 : Int32) (σ : Sg) : X_Mod_met d x1 σ =
  some (some (.int ((-10) - x1)), (xm_sI σ 39 4 x1)) := (xm_it_eq [] 8).trans rfl
noncomputable def X_Mod_sheet (d : Nat) (x1 : Int32) (x2 : Int32) (x3 : Int32) (σ : Sg) : Oz := xm_rn (xm_call d) 1 kc_Mod_sheet 0 [.ref 39, .int x1, .int x2, .int x3, .null] [] σ
noncomputable def X_Mod_sheet_55 (d : Nat) (x1 : Int32) (x3 : Int32) (x4 : Int32) (σ : Sg) : Oz := xm_rn (xm_call d) 1 kc_Mod_sheet 55 [.ref 39, .int x1, .null, .int x3, .int x4] [] σ
set_option maxHeartbeats 8000000 in
set_option maxRecDepth 20000 in
theorem X_Mod_sheet_e (d : Nat) (x1 : Int32) (x2 : Int32) (x3 : Int32) (σ : Sg) : X_Mod_sheet (d + 1) x1 x2 x3 σ =
  xm_cI (X_Mod_isSheet d x1 σ) (fun r2 σ1 => xm_br (r2 = 0)
    (some (some (.int (-2)), σ1))
    (xm_cI (X_Mod_in d x2.toInt64 0 2 σ1) (fun r4 σ3 => xm_br (r4 = 0)
      (some (some (.int (-2)), σ3))
      (xm_br (x3 ≤ 60)
        (xm_br (0 ≤ x3)
          (xm_ix x1 4 (fun j5 => xm_ix x1 4 (fun j6 => X_Mod_sheet_55 (d + 1) x1 x3 0 (xm_sI (xm_sI σ3 40 j5 x2) 41 j6 x3))))
          (xm_cI (X_Mod_met d 5 σ3) (fun r8 σ7 => some (some (.int r8), σ7))))
        (some (some (.int (-2)), σ3)))))) := (xm_it_eq [55] 27).trans rfl
set_option maxHeartbeats 8000000 in
set_option maxRecDepth 20000 in
theorem X_Mod_sheet_55_e (d : Nat) (x1 : Int32) (x3 : Int32) (x4 : Int32) (σ : Sg) : X_Mod_sheet_55 d x1 x3 x4 σ =
  xm_br (x3 ≤ x4)
    (some (some (.int x3), σ))
    (xm_ix ((60 * x1) + x4) 240 (fun j1 => X_Mod_sheet_55 d x1 x3 (x4 + 1) (xm_sI σ 42 j1 0))) := (xm_it_eq [55] 15).trans rfl
noncomputable def X_Mod_lose (d : Nat) (x1 : Int32) (σ : Sg) : Oz := xm_rn (xm_call d) 1 kc_Mod_lose 0 [.ref 39, .int x1] [] σ
set_option maxHeartbeats 8000000 in
set_option maxRecDepth 20000 in
theorem X_Mod_lose_e (d : Nat) (x1 : Int32) (σ : Sg) : X_Mod_lose (d + 1) x1 σ =
  xm_cI (X_Mod_isSheet d x1 σ) (fun r2 σ1 => xm_br (r2 = 0)
    (some (some (.int (-2)), σ1))
    (xm_ix x1 4 (fun j3 => xm_br (0 ≤ (σ1.1 40 j3))
      (xm_ix x1 4 (fun j4 => xm_ix x1 4 (fun j5 => some (some (.int (σ1.1 41 j5)), (xm_sI σ1 40 j4 (-1))))))
      (xm_cI (X_Mod_met d 1 σ1) (fun r7 σ6 => some (some (.int r7), σ6)))))) := (xm_it_eq [] 19).trans rfl
noncomputable def X_Mod_lacks (d : Nat) (x1 : Int32) (x2 : Int32) (x3 : Int32) (σ : Sg) : Oz := xm_rn (xm_call d) 1 kc_Mod_lacks 0 [.ref 39, .int x1, .int x2, .int x3] [] σ
set_option maxHeartbeats 8000000 in
set_option maxRecDepth 20000 in
theorem X_Mod_lacks_e (d : Nat) (x1 : Int32) (x2 : Int32) (x3 : Int32) (σ : Sg) : X_Mod_lacks (d + 1) x1 x2 x3 σ =
  xm_ix x1 4 (fun j1 => xm_br (0 ≤ (σ.1 40 j1))
    (xm_ix x1 4 (fun j2 => xm_br ((σ.1 40 j2) = x2)
      (xm_ix x1 4 (fun j3 => xm_cI (X_Mod_in d x3.toInt64 0 (((σ.1 41 j3) - 1).toInt64) σ) (fun r5 σ4 => xm_br (r5 = 0)
        (xm_cI (X_Mod_met d 2 σ4) (fun r7 σ6 => some (some (.int r7), σ6)))
        (some (some (.int 0), σ4)))))
      (xm_cI (X_Mod_met d 3 σ) (fun r9 σ8 => some (some (.int r9), σ8)))))
    (xm_cI (X_Mod_met d 1 σ) (fun r11 σ10 => some (some (.int r11), σ10)))) := (xm_it_eq [] 28).trans rfl
noncomputable def X_Mod_cut (d : Nat) (x0 : Int32) (x1 : Int32) (σ : Sg) : Oz := xm_rn (xm_call d) 1 kc_Mod_cut 0 [.int x0, .int x1] [] σ
set_option maxHeartbeats 8000000 in
set_option maxRecDepth 20000 in
theorem X_Mod_cut_e (d : Nat) (x0 : Int32) (x1 : Int32) (σ : Sg) : X_Mod_cut d x0 x1 σ =
  xm_br (x0 = 0)
    (some (some (.int x1.toInt8.toInt32), σ))
    (xm_br (x0 = 1)
      (some (some (.int x1.toInt16.toInt32), σ))
      (some (some (.int x1), σ))) := (xm_it_eq [] 10).trans rfl
noncomputable def X_Mod_lay (d : Nat) (x1 : Int32) (x2 : Int32) (x3 : Int32) (x4 : Int32) (σ : Sg) : Oz := xm_rn (xm_call d) 1 kc_Mod_lay 0 [.ref 39, .int x1, .int x2, .int x3, .int x4, .null] [] σ
set_option maxHeartbeats 8000000 in
set_option maxRecDepth 20000 in
theorem X_Mod_lay_e (d : Nat) (x1 : Int32) (x2 : Int32) (x3 : Int32) (x4 : Int32) (σ : Sg) : X_Mod_lay (d + 1) x1 x2 x3 x4 σ =
  xm_cI (X_Mod_isSheet d x1 σ) (fun r2 σ1 => xm_br (r2 = 0)
    (some (some (.int (-2)), σ1))
    (xm_cI (X_Mod_in d x2.toInt64 0 2 σ1) (fun r4 σ3 => xm_br (r4 = 0)
      (some (some (.int (-2)), σ3))
      (xm_cI (X_Mod_lacks d x1 x2 x3 σ3) (fun r6 σ5 => xm_br (r6 = 0)
        (xm_cI (X_Mod_cut d x2 x4 σ5) (fun r8 σ7 => xm_ix ((60 * x1) + x3) 240 (fun j9 => some (some (.int 1), (xm_sI σ7 42 j9 r8)))))
        (some (some (.int r6), σ5))))))) := (xm_it_eq [] 31).trans rfl
noncomputable def X_Mod_get (d : Nat) (x1 : Int32) (x2 : Int32) (x3 : Int32) (σ : Sg) : Oz := xm_rn (xm_call d) 1 kc_Mod_get 0 [.ref 39, .int x1, .int x2, .int x3] [] σ
set_option maxHeartbeats 8000000 in
set_option maxRecDepth 20000 in
theorem X_Mod_get_e (d : Nat) (x1 : Int32) (x2 : Int32) (x3 : Int32) (σ : Sg) : X_Mod_get (d + 1) x1 x2 x3 σ =
  xm_cI (X_Mod_isSheet d x1 σ) (fun r2 σ1 => xm_br (r2 = 0)
    (some (some (.int (-2147483648)), σ1))
    (xm_cI (X_Mod_in d x2.toInt64 0 2 σ1) (fun r4 σ3 => xm_br (r4 = 0)
      (some (some (.int (-2147483648)), σ3))
      (xm_cI (X_Mod_lacks d x1 x2 x3 σ3) (fun r6 σ5 => xm_br (r6 = 0)
        (xm_ix ((60 * x1) + x3) 240 (fun j7 => some (some (.int (σ5.1 42 j7)), σ5)))
        (some (some (.int (-2147483648)), σ5))))))) := (xm_it_eq [] 25).trans rfl
noncomputable def X_Mod_copy (d : Nat) (x1 : Int32) (x2 : Int32) (x3 : Int32) (x4 : Int32) (x5 : Int32) (σ : Sg) : Oz := xm_rn (xm_call d) 1 kc_Mod_copy 0 [.ref 39, .int x1, .int x2, .int x3, .int x4, .int x5, .null] [] σ
noncomputable def X_Mod_copy_14 (d : Nat)  (σ : Sg) : Oz := xm_rn (xm_call d) 1 kc_Mod_copy 14 [.null, .null, .null, .null, .null, .null, .null] [] σ
noncomputable def X_Mod_copy_35 (d : Nat)  (σ : Sg) : Oz := xm_rn (xm_call d) 1 kc_Mod_copy 35 [.ref 39, .null, .null, .null, .null, .null, .null] [] σ
noncomputable def X_Mod_copy_111 (d : Nat)  (σ : Sg) : Oz := xm_rn (xm_call d) 1 kc_Mod_copy 111 [.ref 39, .null, .null, .null, .null, .null, .null] [] σ
noncomputable def X_Mod_copy_120 (d : Nat) (x1 : Int32) (x2 : Int32) (x3 : Int32) (x4 : Int32) (x5 : Int32) (x6 : Int32) (σ : Sg) : Oz := xm_rn (xm_call d) 1 kc_Mod_copy 120 [.ref 39, .int x1, .int x2, .int x3, .int x4, .int x5, .int x6] [] σ
noncomputable def X_Mod_copy_157 (d : Nat) (x3 : Int32) (x4 : Int32) (x5 : Int32) (x6 : Int32) (σ : Sg) : Oz := xm_rn (xm_call d) 1 kc_Mod_copy 157 [.ref 39, .null, .null, .int x3, .int x4, .int x5, .int x6] [] σ
set_option maxHeartbeats 8000000 in
set_option maxRecDepth 20000 in
theorem X_Mod_copy_e (d : Nat) (x1 : Int32) (x2 : Int32) (x3 : Int32) (x4 : Int32) (x5 : Int32) (σ : Sg) : X_Mod_copy (d + 1) x1 x2 x3 x4 x5 σ =
  xm_cI (X_Mod_isSheet d x1 σ) (fun r2 σ1 => xm_br (r2 = 0)
    (X_Mod_copy_14 (d + 1) σ1)
    (xm_cI (X_Mod_isSheet d x3 σ1) (fun r4 σ3 => xm_br (r4 = 0)
      (X_Mod_copy_14 (d + 1) σ3)
      (xm_ix x1 4 (fun j5 => xm_br ((σ3.1 40 j5) < 0)
        (X_Mod_copy_35 (d + 1) σ3)
        (xm_ix x3 4 (fun j6 => xm_br (0 ≤ (σ3.1 40 j6))
          (xm_ix x1 4 (fun j7 => xm_ix x3 4 (fun j8 => xm_br ((σ3.1 40 j7) = (σ3.1 40 j8))
            (xm_br (x2 < 0)
              (X_Mod_copy_111 (d + 1) σ3)
              (xm_br (x4 < 0)
                (X_Mod_copy_111 (d + 1) σ3)
                (xm_br (x5 < 0)
                  (X_Mod_copy_111 (d + 1) σ3)
                  (xm_ix x1 4 (fun j9 => xm_br (0 < (lg_cmp (x2.toInt64 + x5.toInt64) ((σ3.1 41 j9).toInt64)))
                    (X_Mod_copy_111 (d + 1) σ3)
                    (xm_ix x3 4 (fun j10 => xm_br ((lg_cmp (x4.toInt64 + x5.toInt64) ((σ3.1 41 j10).toInt64)) ≤ 0)
                      (X_Mod_copy_120 (d + 1) x1 x2 x3 x4 x5 0 σ3)
                      (X_Mod_copy_111 (d + 1) σ3))))))))
            (xm_cI (X_Mod_met d 4 σ3) (fun r12 σ11 => some (some (.int r12), σ11))))))
          (X_Mod_copy_35 (d + 1) σ3)))))))) := (xm_it_eq [14, 35, 111, 120, 157] 58).trans rfl
set_option maxHeartbeats 8000000 in
set_option maxRecDepth 20000 in
theorem X_Mod_copy_14_e (d : Nat)  (σ : Sg) : X_Mod_copy_14 d σ =
  some (some (.int (-2)), σ) := (xm_it_eq [14, 35, 111, 120, 157] 3).trans rfl
set_option maxHeartbeats 8000000 in
set_option maxRecDepth 20000 in
theorem X_Mod_copy_35_e (d : Nat)  (σ : Sg) : X_Mod_copy_35 (d + 1) σ =
  xm_cI (X_Mod_met d 1 σ) (fun r2 σ1 => some (some (.int r2), σ1)) := (xm_it_eq [14, 35, 111, 120, 157] 5).trans rfl
set_option maxHeartbeats 8000000 in
set_option maxRecDepth 20000 in
theorem X_Mod_copy_111_e (d : Nat)  (σ : Sg) : X_Mod_copy_111 (d + 1) σ =
  xm_cI (X_Mod_met d 2 σ) (fun r2 σ1 => some (some (.int r2), σ1)) := (xm_it_eq [14, 35, 111, 120, 157] 5).trans rfl
set_option maxHeartbeats 8000000 in
set_option maxRecDepth 20000 in
theorem X_Mod_copy_120_e (d : Nat) (x1 : Int32) (x2 : Int32) (x3 : Int32) (x4 : Int32) (x5 : Int32) (x6 : Int32) (σ : Sg) : X_Mod_copy_120 d x1 x2 x3 x4 x5 x6 σ =
  xm_br (x5 ≤ x6)
    (X_Mod_copy_157 d x3 x4 x5 0 σ)
    (xm_ix (((60 * x1) + x2) + x6) 240 (fun j1 => xm_ix x6 60 (fun j2 => X_Mod_copy_120 d x1 x2 x3 x4 x5 (x6 + 1) (xm_sI σ 43 j2 (σ.1 42 j1))))) := (xm_it_eq [14, 35, 111, 120, 157] 20).trans rfl
set_option maxHeartbeats 8000000 in
set_option maxRecDepth 20000 in
theorem X_Mod_copy_157_e (d : Nat) (x3 : Int32) (x4 : Int32) (x5 : Int32) (x6 : Int32) (σ : Sg) : X_Mod_copy_157 d x3 x4 x5 x6 σ =
  xm_br (x5 ≤ x6)
    (some (some (.int 1), σ))
    (xm_ix x6 60 (fun j1 => xm_ix (((60 * x3) + x4) + x6) 240 (fun j2 => X_Mod_copy_157 d x3 x4 x5 (x6 + 1) (xm_sI σ 42 j2 (σ.1 43 j1))))) := (xm_it_eq [14, 35, 111, 120, 157] 20).trans rfl
noncomputable def X_Mod_persons (d : Nat) (x1 : Int32) (σ : Sg) : Oz := xm_rn (xm_call d) 1 kc_Mod_persons 0 [.ref 39, .int x1, .null, .null] [] σ
noncomputable def X_Mod_persons_27 (d : Nat) (x1 : Int32) (x2 : Int32) (x3 : Int32) (σ : Sg) : Oz := xm_rn (xm_call d) 1 kc_Mod_persons 27 [.ref 39, .int x1, .int x2, .int x3] [] σ
set_option maxHeartbeats 8000000 in
set_option maxRecDepth 20000 in
theorem X_Mod_persons_e (d : Nat) (x1 : Int32) (σ : Sg) : X_Mod_persons (d + 1) x1 σ =
  xm_cI (X_Mod_in d x1.toInt64 1 9 σ) (fun r2 σ1 => xm_br (r2 = 0)
    (some (some (.int (-2)), σ1))
    (X_Mod_persons_27 (d + 1) x1 (σ1.1 39 5) 0 (xm_sI σ1 39 5 x1))) := (xm_it_eq [27] 15).trans rfl
set_option maxHeartbeats 8000000 in
set_option maxRecDepth 20000 in
theorem X_Mod_persons_27_e (d : Nat) (x1 : Int32) (x2 : Int32) (x3 : Int32) (σ : Sg) : X_Mod_persons_27 d x1 x2 x3 σ =
  xm_br (9 ≤ x3)
    (xm_br (x1 ≤ (σ.1 39 8))
      (some (some (.int x2), (xm_sI σ 39 8 (-1))))
      (some (some (.int x2), (xm_sI σ 39 8 (σ.1 39 8)))))
    (xm_br (x1 ≤ x3)
      (xm_ix x3 9 (fun j1 => xm_br (x1 ≤ x3)
        (xm_ix x3 9 (fun j2 => X_Mod_persons_27 d x1 x2 (x3 + 1) (xm_sI (xm_sI σ 44 j1 0) 45 j2 0)))
        (xm_ix x3 9 (fun j3 => xm_ix x3 9 (fun j4 => X_Mod_persons_27 d x1 x2 (x3 + 1) (xm_sI (xm_sI σ 44 j1 0) 45 j4 (σ.1 45 j3)))))))
      (xm_ix x3 9 (fun j5 => xm_ix x3 9 (fun j6 => xm_br (x1 ≤ x3)
        (xm_ix x3 9 (fun j7 => X_Mod_persons_27 d x1 x2 (x3 + 1) (xm_sI (xm_sI σ 44 j6 ((σ.1 44 j5) &&& (((1 : Int32) <<< (x1 &&& 31)) - 1))) 45 j7 0)))
        (xm_ix x3 9 (fun j8 => xm_ix x3 9 (fun j9 => X_Mod_persons_27 d x1 x2 (x3 + 1) (xm_sI (xm_sI σ 44 j6 ((σ.1 44 j5) &&& (((1 : Int32) <<< (x1 &&& 31)) - 1))) 45 j9 (σ.1 45 j8))))))))) := (xm_it_eq [27] 36).trans rfl
noncomputable def X_Mod_isPerson (d : Nat) (x1 : Int32) (σ : Sg) : Oz := xm_rn (xm_call d) 3 kc_Mod_isPerson 0 [.ref 39, .int x1] [] σ
set_option maxHeartbeats 8000000 in
set_option maxRecDepth 20000 in
theorem X_Mod_isPerson_e (d : Nat) (x1 : Int32) (σ : Sg) : X_Mod_isPerson (d + 1) x1 σ =
  xm_cI (X_Mod_in d x1.toInt64 0 (((σ.1 39 5) - 1).toInt64) σ) (fun r2 σ1 => xm_bo r2 (some (some (.int r2), σ1))) := (xm_it_eq [] 11).trans rfl
noncomputable def X_Mod_ties (d : Nat) (x1 : Int32) (x2 : Int32) (x3 : Int32) (σ : Sg) : Oz := xm_rn (xm_call d) 1 kc_Mod_ties 0 [.ref 39, .int x1, .int x2, .int x3, .null] [] σ
set_option maxHeartbeats 8000000 in
set_option maxRecDepth 20000 in
theorem X_Mod_ties_e (d : Nat) (x1 : Int32) (x2 : Int32) (x3 : Int32) (σ : Sg) : X_Mod_ties d x1 x2 x3 σ =
  xm_ix x1 9 (fun j1 => xm_br ((((σ.1 44 j1) >>> (x2 &&& 31)) &&& 1) = 1)
    (xm_br (1 = x3)
      (some (some (.int 0), σ))
      (xm_ix x1 9 (fun j6 => xm_ix x1 9 (fun j7 => xm_ix x2 9 (fun j8 => xm_ix x2 9 (fun j9 => some (some (.int 1), (xm_sI (xm_sI σ 44 j7 ((σ.1 44 j6) ^^^ ((1 : Int32) <<< (x2 &&& 31)))) 44 j9 ((((xm_sI σ 44 j7 ((σ.1 44 j6) ^^^ ((1 : Int32) <<< (x2 &&& 31))))).1 44 j8) ^^^ ((1 : Int32) <<< (x1 &&& 31)))))))))))
    (xm_br (0 = x3)
      (some (some (.int 0), σ))
      (xm_ix x1 9 (fun j2 => xm_ix x1 9 (fun j3 => xm_ix x2 9 (fun j4 => xm_ix x2 9 (fun j5 => some (some (.int 1), (xm_sI (xm_sI σ 44 j3 ((σ.1 44 j2) ^^^ ((1 : Int32) <<< (x2 &&& 31)))) 44 j5 ((((xm_sI σ 44 j3 ((σ.1 44 j2) ^^^ ((1 : Int32) <<< (x2 &&& 31))))).1 44 j4) ^^^ ((1 : Int32) <<< (x1 &&& 31)))))))))))) := (xm_it_eq [] 39).trans rfl
noncomputable def X_Mod_tie (d : Nat) (x1 : Int32) (x2 : Int32) (x3 : Int32) (σ : Sg) : Oz := xm_rn (xm_call d) 1 kc_Mod_tie 0 [.ref 39, .int x1, .int x2, .int x3] [] σ
set_option maxHeartbeats 8000000 in
set_option maxRecDepth 20000 in
theorem X_Mod_tie_e (d : Nat) (x1 : Int32) (x2 : Int32) (x3 : Int32) (σ : Sg) : X_Mod_tie (d + 1) x1 x2 x3 σ =
  xm_cI (X_Mod_isPerson d x1 σ) (fun r2 σ1 => xm_br (r2 = 0)
    (some (some (.int (-2)), σ1))
    (xm_cI (X_Mod_isPerson d x2 σ1) (fun r4 σ3 => xm_br (r4 = 0)
      (some (some (.int (-2)), σ3))
      (xm_br (x1 = x2)
        (some (some (.int (-2)), σ3))
        (xm_cI (X_Mod_ties d x1 x2 x3 σ3) (fun r6 σ5 => some (some (.int r6), σ5))))))) := (xm_it_eq [] 19).trans rfl
noncomputable def X_Mod_isTwo (d : Nat) (x0 : Int32) (σ : Sg) : Oz := xm_rn (xm_call d) 3 kc_Mod_isTwo 0 [.int x0] [] σ
set_option maxHeartbeats 8000000 in
set_option maxRecDepth 20000 in
theorem X_Mod_isTwo_e (d : Nat) (x0 : Int32) (σ : Sg) : X_Mod_isTwo (d + 1) x0 σ =
  xm_cI (X_Mod_in d x0.toInt64 0 1 σ) (fun r2 σ1 => xm_bo r2 (some (some (.int r2), σ1))) := (xm_it_eq [] 7).trans rfl
noncomputable def X_Mod_kind (d : Nat) (x1 : Int32) (x2 : Int32) (σ : Sg) : Oz := xm_rn (xm_call d) 1 kc_Mod_kind 0 [.ref 39, .int x1, .int x2, .null] [] σ
set_option maxHeartbeats 8000000 in
set_option maxRecDepth 20000 in
theorem X_Mod_kind_e (d : Nat) (x1 : Int32) (x2 : Int32) (σ : Sg) : X_Mod_kind (d + 1) x1 x2 σ =
  xm_cI (X_Mod_isPerson d x1 σ) (fun r2 σ1 => xm_br (r2 = 0)
    (some (some (.int (-2)), σ1))
    (xm_cI (X_Mod_isTwo d x2 σ1) (fun r4 σ3 => xm_br (r4 = 0)
      (some (some (.int (-2)), σ3))
      (xm_ix x1 9 (fun j5 => xm_ix x1 9 (fun j6 => some (some (.int (σ3.1 45 j5)), (xm_sI σ3 45 j6 x2)))))))) := (xm_it_eq [] 20).trans rfl
noncomputable def X_Mod_read (d : Nat) (x1 : Int32) (x2 : Int32) (σ : Sg) : Oz := xm_rn (xm_call d) 1 kc_Mod_read 0 [.ref 39, .int x1, .int x2, .null, .null, .null] [] σ
noncomputable def X_Mod_read_38 (d : Nat) (x1 : Int32) (x2 : Int32) (x3 : Int32) (x4 : Int32) (σ : Sg) : Oz := xm_rn (xm_call d) 1 kc_Mod_read 38 [.ref 39, .int x1, .int x2, .int x3, .int x4, .null] [] σ
set_option maxHeartbeats 8000000 in
set_option maxRecDepth 20000 in
theorem X_Mod_read_e (d : Nat) (x1 : Int32) (x2 : Int32) (σ : Sg) : X_Mod_read (d + 1) x1 x2 σ =
  xm_cI (X_Mod_isSheet d x1 σ) (fun r2 σ1 => xm_br (r2 = 0)
    (some (some (.int (-2)), σ1))
    (xm_cI (X_Mod_isPerson d x2 σ1) (fun r4 σ3 => xm_br (r4 = 0)
      (some (some (.int (-2)), σ3))
      (xm_ix x1 4 (fun j5 => xm_br (0 ≤ (σ3.1 40 j5))
        (X_Mod_read_38 (d + 1) x1 x2 0 1 σ3)
        (xm_cI (X_Mod_met d 1 σ3) (fun r7 σ6 => some (some (.int r7), σ6)))))))) := (xm_it_eq [38] 17).trans rfl
set_option maxHeartbeats 8000000 in
set_option maxRecDepth 20000 in
theorem X_Mod_read_38_e (d : Nat) (x1 : Int32) (x2 : Int32) (x3 : Int32) (x4 : Int32) (σ : Sg) : X_Mod_read_38 (d + 1) x1 x2 x3 x4 σ =
  xm_br (x4 = 0)
    (some (some (.int x3), σ))
    (xm_ix x1 4 (fun j1 => xm_br ((σ.1 41 j1) ≤ x3)
      (some (some (.int x3), σ))
      (xm_br ((σ.1 39 5) ≤ x3)
        (some (some (.int x3), σ))
        (xm_ix ((60 * x1) + x3) 240 (fun j2 => xm_br (x3 = x2)
          (xm_br (x3 = x2)
            (X_Mod_read_38 (d + 1) x1 x2 (x3 + 1) 1 σ)
            (xm_br ((σ.1 42 j2) = 1)
              (xm_cI (X_Mod_ties d x2 x3 1 σ) (fun r6 σ5 => X_Mod_read_38 (d + 1) x1 x2 (x3 + 1) 1 σ5))
              (xm_cI (X_Mod_ties d x2 x3 0 σ) (fun r4 σ3 => X_Mod_read_38 (d + 1) x1 x2 (x3 + 1) 1 σ3))))
          (xm_cI (X_Mod_isTwo d (σ.1 42 j2) σ) (fun r8 σ7 => xm_br (r8 = 0)
            (X_Mod_read_38 (d + 1) x1 x2 (x3 + 0) 0 σ7)
            (xm_br (x3 = x2)
              (X_Mod_read_38 (d + 1) x1 x2 (x3 + 1) 1 σ7)
              (xm_br ((σ.1 42 j2) = 1)
                (xm_cI (X_Mod_ties d x2 x3 1 σ7) (fun r12 σ11 => X_Mod_read_38 (d + 1) x1 x2 (x3 + 1) 1 σ11))
                (xm_cI (X_Mod_ties d x2 x3 0 σ7) (fun r10 σ9 => X_Mod_read_38 (d + 1) x1 x2 (x3 + 1) 1 σ9))))))))))) := (xm_it_eq [38] 54).trans rfl
noncomputable def X_Mod_bitsOf (d : Nat) (x0 : Int32) (σ : Sg) : Oz := xm_rn (xm_call d) 1 kc_Mod_bitsOf 0 [.int x0, .null, .null] [] σ
noncomputable def X_Mod_bitsOf_4 (d : Nat) (x1 : Int32) (x2 : Int32) (σ : Sg) : Oz := xm_rn (xm_call d) 1 kc_Mod_bitsOf 4 [.null, .int x1, .int x2] [] σ
set_option maxHeartbeats 8000000 in
set_option maxRecDepth 20000 in
theorem X_Mod_bitsOf_e (d : Nat) (x0 : Int32) (σ : Sg) : X_Mod_bitsOf d x0 σ =
  X_Mod_bitsOf_4 d 0 x0 σ := (xm_it_eq [4] 5).trans rfl
set_option maxHeartbeats 8000000 in
set_option maxRecDepth 20000 in
theorem X_Mod_bitsOf_4_e (d : Nat) (x1 : Int32) (x2 : Int32) (σ : Sg) : X_Mod_bitsOf_4 d x1 x2 σ =
  xm_br (x2 = 0)
    (some (some (.int x1), σ))
    (X_Mod_bitsOf_4 d (x1 + 1) (x2 &&& (x2 - 1)) σ) := (xm_it_eq [4] 11).trans rfl
noncomputable def X_Mod_degree (d : Nat) (x1 : Int32) (σ : Sg) : Oz := xm_rn (xm_call d) 1 kc_Mod_degree 0 [.ref 39, .int x1] [] σ
set_option maxHeartbeats 8000000 in
set_option maxRecDepth 20000 in
theorem X_Mod_degree_e (d : Nat) (x1 : Int32) (σ : Sg) : X_Mod_degree (d + 1) x1 σ =
  xm_ix x1 9 (fun j1 => xm_cI (X_Mod_bitsOf d (σ.1 44 j1) σ) (fun r3 σ2 => some (some (.int r3), σ2))) := (xm_it_eq [] 7).trans rfl
noncomputable def X_Mod_about (d : Nat) (x1 : Int32) (x2 : Int32) (σ : Sg) : Oz := xm_rn (xm_call d) 1 kc_Mod_about 0 [.ref 39, .int x1, .int x2] [] σ
set_option maxHeartbeats 8000000 in
set_option maxRecDepth 20000 in
theorem X_Mod_about_e (d : Nat) (x1 : Int32) (x2 : Int32) (σ : Sg) : X_Mod_about (d + 1) x1 x2 σ =
  xm_cI (X_Mod_isPerson d x1 σ) (fun r2 σ1 => xm_br (r2 = 0)
    (some (some (.int (-2)), σ1))
    (xm_cI (X_Mod_isTwo d x2 σ1) (fun r4 σ3 => xm_br (r4 = 0)
      (some (some (.int (-2)), σ3))
      (xm_br (x2 = 0)
        (xm_cI (X_Mod_degree d x1 σ3) (fun r7 σ6 => some (some (.int r7), σ6)))
        (xm_ix x1 9 (fun j5 => some (some (.int (σ3.1 45 j5)), σ3))))))) := (xm_it_eq [] 16).trans rfl
noncomputable def X_Mod_everybody (d : Nat)  (σ : Sg) : Oz := xm_rn (xm_call d) 1 kc_Mod_everybody 0 [.ref 39] [] σ
set_option maxHeartbeats 8000000 in
set_option maxRecDepth 20000 in
theorem X_Mod_everybody_e (d : Nat)  (σ : Sg) : X_Mod_everybody d σ =
  some (some (.int (((1 : Int32) <<< ((σ.1 39 5) &&& 31)) - 1)), σ) := (xm_it_eq [] 8).trans rfl
noncomputable def X_Mod_around (d : Nat) (x1 : Int32) (x2 : Int32) (x3 : Int32) (σ : Sg) : Oz := xm_rn (xm_call d) 1 kc_Mod_around 0 [.ref 39, .int x1, .int x2, .int x3, .null, .null, .null, .null] [] σ
noncomputable def X_Mod_around_6 (d : Nat) (x2 : Int32) (x3 : Int32) (x4 : Int32) (x5 : Int32) (σ : Sg) : Oz := xm_rn (xm_call d) 1 kc_Mod_around 6 [.ref 39, .null, .int x2, .int x3, .int x4, .int x5, .null, .null] [] σ
noncomputable def X_Mod_around_19 (d : Nat) (x2 : Int32) (x3 : Int32) (x4 : Int32) (x5 : Int32) (x6 : Int32) (x7 : Int32) (σ : Sg) : Oz := xm_rn (xm_call d) 1 kc_Mod_around 19 [.ref 39, .null, .int x2, .int x3, .int x4, .int x5, .int x6, .int x7] [] σ
set_option maxHeartbeats 8000000 in
set_option maxRecDepth 20000 in
theorem X_Mod_around_e (d : Nat) (x1 : Int32) (x2 : Int32) (x3 : Int32) (σ : Sg) : X_Mod_around d x1 x2 x3 σ =
  X_Mod_around_6 d x2 x3 x1 0 σ := (xm_it_eq [6, 19] 5).trans rfl
set_option maxHeartbeats 8000000 in
set_option maxRecDepth 20000 in
theorem X_Mod_around_6_e (d : Nat) (x2 : Int32) (x3 : Int32) (x4 : Int32) (x5 : Int32) (σ : Sg) : X_Mod_around_6 d x2 x3 x4 x5 σ =
  xm_br (x2 ≤ x5)
    (some (some (.int x4), σ))
    (X_Mod_around_19 d x2 x3 x4 x5 x4 0 σ) := (xm_it_eq [6, 19] 8).trans rfl
set_option maxHeartbeats 8000000 in
set_option maxRecDepth 20000 in
theorem X_Mod_around_19_e (d : Nat) (x2 : Int32) (x3 : Int32) (x4 : Int32) (x5 : Int32) (x6 : Int32) (x7 : Int32) (σ : Sg) : X_Mod_around_19 d x2 x3 x4 x5 x6 x7 σ =
  xm_br ((σ.1 39 5) ≤ x7)
    (X_Mod_around_6 d x2 x3 x6 (x5 + 1) σ)
    (xm_br (((x4 >>> (x7 &&& 31)) &&& 1) = 1)
      (xm_ix x7 9 (fun j1 => X_Mod_around_19 d x2 x3 x4 x5 (x6 ||| ((σ.1 44 j1) &&& x3)) (x7 + 1) σ))
      (X_Mod_around_19 d x2 x3 x4 x5 (x6 ||| 0) (x7 + 1) σ)) := (xm_it_eq [6, 19] 24).trans rfl
noncomputable def X_Mod_far (d : Nat) (x1 : Int32) (x2 : Int32) (σ : Sg) : Oz := xm_rn (xm_call d) 1 kc_Mod_far 0 [.ref 39, .int x1, .int x2, .null] [] σ
noncomputable def X_Mod_far_21 (d : Nat) (x1 : Int32) (x2 : Int32) (x3 : Int32) (σ : Sg) : Oz := xm_rn (xm_call d) 1 kc_Mod_far 21 [.ref 39, .int x1, .int x2, .int x3] [] σ
set_option maxHeartbeats 8000000 in
set_option maxRecDepth 20000 in
theorem X_Mod_far_e (d : Nat) (x1 : Int32) (x2 : Int32) (σ : Sg) : X_Mod_far (d + 1) x1 x2 σ =
  xm_cI (X_Mod_isPerson d x1 σ) (fun r2 σ1 => xm_br (r2 = 0)
    (some (some (.int (-2)), σ1))
    (xm_cI (X_Mod_isPerson d x2 σ1) (fun r4 σ3 => xm_br (r4 = 0)
      (some (some (.int (-2)), σ3))
      (X_Mod_far_21 (d + 1) x1 x2 0 σ3)))) := (xm_it_eq [21] 11).trans rfl
set_option maxHeartbeats 8000000 in
set_option maxRecDepth 20000 in
theorem X_Mod_far_21_e (d : Nat) (x1 : Int32) (x2 : Int32) (x3 : Int32) (σ : Sg) : X_Mod_far_21 (d + 1) x1 x2 x3 σ =
  xm_br (9 ≤ x3)
    (some (some (.int (-1)), σ))
    (xm_cI (X_Mod_everybody d σ) (fun r2 σ1 => xm_cI (X_Mod_around d ((1 : Int32) <<< (x1 &&& 31)) x3 r2 σ1) (fun r4 σ3 => xm_br (((r4 >>> (x2 &&& 31)) &&& 1) = 1)
      (some (some (.int x3), σ3))
      (X_Mod_far_21 (d + 1) x1 x2 (x3 + 1) σ3)))) := (xm_it_eq [21] 20).trans rfl
