noncomputable def X_Net_everyone (d : Nat)  (σ : Sg) : Oz := xm_rn (xm_call d) 1 kc_Net_everyone 0 [.ref 1] [] σ
set_option maxHeartbeats 8000000 in
set_option maxRecDepth 20000 in
theorem X_Net_everyone_e (d : Nat)  (σ : Sg) : X_Net_everyone d σ =
  some (some (.int (((1 : Int32) <<< ((σ.1 1 1) &&& 31)) - 1)), σ) := (xm_it_eq [] 8).trans rfl
noncomputable def X_Net_resize (d : Nat) (x1 : Int32) (σ : Sg) : Oz := xm_rn (xm_call d) 0 kc_Net_resize 0 [.ref 1, .int x1, .null] [] σ
noncomputable def X_Net_resize_20 (d : Nat) (x1 : Int32) (x2 : Int32) (σ : Sg) : Oz := xm_rn (xm_call d) 0 kc_Net_resize 20 [.ref 1, .int x1, .int x2] [] σ
set_option maxHeartbeats 8000000 in
set_option maxRecDepth 20000 in
theorem X_Net_resize_e (d : Nat) (x1 : Int32) (σ : Sg) : X_Net_resize (d + 1) x1 σ =
  xm_cI (X_Net_everyone d (xm_sI σ 1 1 x1)) (fun r2 σ1 => X_Net_resize_20 (d + 1) x1 0 (xm_sI σ1 1 2 ((σ.1 1 2) &&& r2))) := (xm_it_eq [20] 13).trans rfl
set_option maxHeartbeats 8000000 in
set_option maxRecDepth 20000 in
theorem X_Net_resize_20_e (d : Nat) (x1 : Int32) (x2 : Int32) (σ : Sg) : X_Net_resize_20 (d + 1) x1 x2 σ =
  xm_br (9 ≤ x2)
    (some (none, (xm_sI σ 1 3 ((σ.1 1 3) + 1))))
    (xm_br (x1 ≤ x2)
      (xm_ix x2 9 (fun j1 => X_Net_resize_20 (d + 1) x1 (x2 + 1) (xm_sI σ 2 j1 0)))
      (xm_ix x2 9 (fun j2 => xm_cI (X_Net_everyone d σ) (fun r4 σ3 => xm_ix x2 9 (fun j5 => X_Net_resize_20 (d + 1) x1 (x2 + 1) (xm_sI σ3 2 j5 ((σ.1 2 j2) &&& r4))))))) := (xm_it_eq [20] 21).trans rfl
noncomputable def X_Net_holds (d : Nat) (x1 : Int32) (σ : Sg) : Oz := xm_rn (xm_call d) 3 kc_Net_holds 0 [.ref 1, .int x1] [] σ
set_option maxHeartbeats 8000000 in
set_option maxRecDepth 20000 in
theorem X_Net_holds_e (d : Nat) (x1 : Int32) (σ : Sg) : X_Net_holds d x1 σ =
  xm_br (x1 < 0)
    (some (some (.int 0), σ))
    (xm_br ((σ.1 1 1) ≤ x1)
      (some (some (.int 0), σ))
      (some (some (.int 1), σ))) := (xm_it_eq [] 10).trans rfl
noncomputable def X_TO_persons (d : Nat) (x1 : Int32) (σ : Sg) : Oz := xm_rn (xm_call d) 1 kc_TO_persons 0 [.ref 0, .int x1, .null] [] σ
set_option maxHeartbeats 8000000 in
set_option maxRecDepth 20000 in
theorem X_TO_persons_e (d : Nat) (x1 : Int32) (σ : Sg) : X_TO_persons (d + 1) x1 σ =
  xm_br (x1 < 1)
    (some (some (.int (-2)), σ))
    (xm_br (x1 ≤ 9)
      (xm_cV (X_Net_resize d x1 σ) (fun σ1 => xm_cI (X_Net_holds d (σ1.1 0 8) σ1) (fun r3 σ2 => xm_br (r3 = 0)
        (some (some (.int (σ.1 1 1)), (xm_sI σ2 0 8 (-1))))
        (some (some (.int (σ.1 1 1)), σ2)))))
      (some (some (.int (-2)), σ))) := (xm_it_eq [] 26).trans rfl
noncomputable def X_Net_tied (d : Nat) (x1 : Int32) (x2 : Int32) (σ : Sg) : Oz := xm_rn (xm_call d) 3 kc_Net_tied 0 [.ref 1, .int x1, .int x2] [] σ
set_option maxHeartbeats 8000000 in
set_option maxRecDepth 20000 in
theorem X_Net_tied_e (d : Nat) (x1 : Int32) (x2 : Int32) (σ : Sg) : X_Net_tied (d + 1) x1 x2 σ =
  xm_cI (X_Net_holds d x1 σ) (fun r2 σ1 => xm_br (r2 = 0)
    (some (some (.int 0), σ1))
    (xm_cI (X_Net_holds d x2 σ1) (fun r4 σ3 => xm_br (r4 = 0)
      (some (some (.int 0), σ3))
      (xm_ix x1 9 (fun j5 => xm_br ((((σ3.1 2 j5) >>> (x2 &&& 31)) &&& 1) = 1)
        (some (some (.int 1), σ3))
        (some (some (.int 0), σ3))))))) := (xm_it_eq [] 22).trans rfl
noncomputable def X_Net_join (d : Nat) (x1 : Int32) (x2 : Int32) (x3 : Int32) (σ : Sg) : Oz := xm_rn (xm_call d) 0 kc_Net_join 0 [.ref 1, .int x1, .int x2, .int x3] [] σ
set_option maxHeartbeats 8000000 in
set_option maxRecDepth 20000 in
theorem X_Net_join_e (d : Nat) (x1 : Int32) (x2 : Int32) (x3 : Int32) (σ : Sg) : X_Net_join (d + 1) x1 x2 x3 σ =
  xm_cI (X_Net_holds d x1 σ) (fun r2 σ1 => xm_br (r2 = 0)
    (some (none, σ1))
    (xm_cI (X_Net_holds d x2 σ1) (fun r4 σ3 => xm_br (r4 = 0)
      (some (none, σ3))
      (xm_br (x3 = 0)
        (xm_ix x1 9 (fun j5 => xm_ix x1 9 (fun j6 => xm_br (x3 = 0)
          (xm_ix x2 9 (fun j7 => xm_ix x2 9 (fun j8 => some (none, (xm_sI (xm_sI (xm_sI σ3 2 j6 ((σ3.1 2 j5) &&& (((1 : Int32) <<< (x2 &&& 31)) ^^^ (-1)))) 2 j8 ((((xm_sI σ3 2 j6 ((σ3.1 2 j5) &&& (((1 : Int32) <<< (x2 &&& 31)) ^^^ (-1))))).1 2 j7) &&& (((1 : Int32) <<< (x1 &&& 31)) ^^^ (-1)))) 1 3 ((σ3.1 1 3) + 1))))))
          (xm_ix x2 9 (fun j9 => xm_ix x2 9 (fun j10 => some (none, (xm_sI (xm_sI (xm_sI σ3 2 j6 ((σ3.1 2 j5) &&& (((1 : Int32) <<< (x2 &&& 31)) ^^^ (-1)))) 2 j10 ((((xm_sI σ3 2 j6 ((σ3.1 2 j5) &&& (((1 : Int32) <<< (x2 &&& 31)) ^^^ (-1))))).1 2 j9) ||| ((1 : Int32) <<< (x1 &&& 31)))) 1 3 ((σ3.1 1 3) + 1)))))))))
        (xm_ix x1 9 (fun j11 => xm_ix x1 9 (fun j12 => xm_br (x3 = 0)
          (xm_ix x2 9 (fun j13 => xm_ix x2 9 (fun j14 => some (none, (xm_sI (xm_sI (xm_sI σ3 2 j12 ((σ3.1 2 j11) ||| ((1 : Int32) <<< (x2 &&& 31)))) 2 j14 ((((xm_sI σ3 2 j12 ((σ3.1 2 j11) ||| ((1 : Int32) <<< (x2 &&& 31))))).1 2 j13) &&& (((1 : Int32) <<< (x1 &&& 31)) ^^^ (-1)))) 1 3 ((σ3.1 1 3) + 1))))))
          (xm_ix x2 9 (fun j15 => xm_ix x2 9 (fun j16 => some (none, (xm_sI (xm_sI (xm_sI σ3 2 j12 ((σ3.1 2 j11) ||| ((1 : Int32) <<< (x2 &&& 31)))) 2 j16 ((((xm_sI σ3 2 j12 ((σ3.1 2 j11) ||| ((1 : Int32) <<< (x2 &&& 31))))).1 2 j15) ||| ((1 : Int32) <<< (x1 &&& 31)))) 1 3 ((σ3.1 1 3) + 1))))))))))))) := (xm_it_eq [] 48).trans rfl
noncomputable def X_TO_tie (d : Nat) (x1 : Int32) (x2 : Int32) (x3 : Int32) (σ : Sg) : Oz := xm_rn (xm_call d) 1 kc_TO_tie 0 [.ref 0, .int x1, .int x2, .int x3] [] σ
set_option maxHeartbeats 8000000 in
set_option maxRecDepth 20000 in
theorem X_TO_tie_e (d : Nat) (x1 : Int32) (x2 : Int32) (x3 : Int32) (σ : Sg) : X_TO_tie (d + 1) x1 x2 x3 σ =
  xm_cI (X_Net_holds d x1 σ) (fun r2 σ1 => xm_br (r2 = 0)
    (some (some (.int (-2)), σ1))
    (xm_cI (X_Net_holds d x2 σ1) (fun r4 σ3 => xm_br (r4 = 0)
      (some (some (.int (-2)), σ3))
      (xm_br (x1 = x2)
        (some (some (.int (-2)), σ3))
        (xm_cI (X_Net_tied d x1 x2 σ3) (fun r6 σ5 => xm_br (r6 = x3)
          (some (some (.int 0), σ5))
          (xm_cV (X_Net_join d x1 x2 x3 σ5) (fun σ7 => some (some (.int 1), σ7))))))))) := (xm_it_eq [] 29).trans rfl
noncomputable def X_TO_isBit (d : Nat) (x0 : Int32) (σ : Sg) : Oz := xm_rn (xm_call d) 3 kc_TO_isBit 0 [.int x0] [] σ
set_option maxHeartbeats 8000000 in
set_option maxRecDepth 20000 in
theorem X_TO_isBit_e (d : Nat) (x0 : Int32) (σ : Sg) : X_TO_isBit d x0 σ =
  xm_br (x0 = 0)
    (some (some (.int 1), σ))
    (xm_br (x0 = 1)
      (some (some (.int 1), σ))
      (some (some (.int 0), σ))) := (xm_it_eq [] 9).trans rfl
noncomputable def X_Net_kindOf (d : Nat) (x1 : Int32) (σ : Sg) : Oz := xm_rn (xm_call d) 1 kc_Net_kindOf 0 [.ref 1, .int x1] [] σ
set_option maxHeartbeats 8000000 in
set_option maxRecDepth 20000 in
theorem X_Net_kindOf_e (d : Nat) (x1 : Int32) (σ : Sg) : X_Net_kindOf d x1 σ =
  some (some (.int (((σ.1 1 2) >>> (x1 &&& 31)) &&& 1)), σ) := (xm_it_eq [] 8).trans rfl
noncomputable def X_Net_turn (d : Nat) (x1 : Int32) (x2 : Int32) (σ : Sg) : Oz := xm_rn (xm_call d) 0 kc_Net_turn 0 [.ref 1, .int x1, .int x2] [] σ
set_option maxHeartbeats 8000000 in
set_option maxRecDepth 20000 in
theorem X_Net_turn_e (d : Nat) (x1 : Int32) (x2 : Int32) (σ : Sg) : X_Net_turn d x1 x2 σ =
  some (none, (xm_sI σ 1 2 (((σ.1 1 2) &&& (((1 : Int32) <<< (x1 &&& 31)) ^^^ (-1))) ||| (x2 <<< (x1 &&& 31))))) := (xm_it_eq [] 16).trans rfl
noncomputable def X_TO_kind (d : Nat) (x1 : Int32) (x2 : Int32) (σ : Sg) : Oz := xm_rn (xm_call d) 1 kc_TO_kind 0 [.ref 0, .int x1, .int x2, .null] [] σ
set_option maxHeartbeats 8000000 in
set_option maxRecDepth 20000 in
theorem X_TO_kind_e (d : Nat) (x1 : Int32) (x2 : Int32) (σ : Sg) : X_TO_kind (d + 1) x1 x2 σ =
  xm_cI (X_Net_holds d x1 σ) (fun r2 σ1 => xm_br (r2 = 0)
    (some (some (.int (-2)), σ1))
    (xm_cI (X_TO_isBit d x2 σ1) (fun r4 σ3 => xm_br (r4 = 0)
      (some (some (.int (-2)), σ3))
      (xm_cI (X_Net_kindOf d x1 σ3) (fun r6 σ5 => xm_cV (X_Net_turn d x1 x2 σ5) (fun σ7 => some (some (.int r6), σ7))))))) := (xm_it_eq [] 21).trans rfl
noncomputable def X_Sheets_holds (d : Nat) (x1 : Int32) (σ : Sg) : Oz := xm_rn (xm_call d) 3 kc_Sheets_holds 0 [.ref 31, .int x1] [] σ
set_option maxHeartbeats 8000000 in
set_option maxRecDepth 20000 in
theorem X_Sheets_holds_e (d : Nat) (x1 : Int32) (σ : Sg) : X_Sheets_holds d x1 σ =
  xm_br (x1 < 0)
    (some (some (.int 0), σ))
    (xm_br (4 ≤ x1)
      (some (some (.int 0), σ))
      (some (some (.int 1), σ))) := (xm_it_eq [] 9).trans rfl
noncomputable def X_Sheets_isLost (d : Nat) (x1 : Int32) (σ : Sg) : Oz := xm_rn (xm_call d) 3 kc_Sheets_isLost 0 [.ref 31, .int x1] [] σ
set_option maxHeartbeats 8000000 in
set_option maxRecDepth 20000 in
theorem X_Sheets_isLost_e (d : Nat) (x1 : Int32) (σ : Sg) : X_Sheets_isLost d x1 σ =
  xm_ix x1 4 (fun j1 => xm_br ((σ.1 32 j1) = (-1))
    (some (some (.int 1), σ))
    (some (some (.int 0), σ))) := (xm_it_eq [] 10).trans rfl
noncomputable def X_Sheets_finding (d : Nat) (x1 : Int32) (σ : Sg) : Oz := xm_rn (xm_call d) 1 kc_Sheets_finding 0 [.ref 31, .int x1] [] σ
set_option maxHeartbeats 8000000 in
set_option maxRecDepth 20000 in
theorem X_Sheets_finding_e (d : Nat) (x1 : Int32) (σ : Sg) : X_Sheets_finding d x1 σ =
  some (some (.int ((-10) - x1)), (xm_sI σ 31 3 x1)) := (xm_it_eq [] 8).trans rfl
noncomputable def X_Sheets_item (d : Nat) (x1 : Int32) (x2 : Int32) (σ : Sg) : Oz := xm_rn (xm_call d) 1 kc_Sheets_item 0 [.ref 31, .int x1, .int x2] [] σ
set_option maxHeartbeats 8000000 in
set_option maxRecDepth 20000 in
theorem X_Sheets_item_e (d : Nat) (x1 : Int32) (x2 : Int32) (σ : Sg) : X_Sheets_item d x1 x2 σ =
  xm_br (x1 = 0)
    (xm_ix x2 60 (fun j1 => some (some (.int (σ.1 35 j1)), σ)))
    (xm_br (x1 = 1)
    (xm_ix x2 60 (fun j2 => some (some (.int (σ.1 36 j2)), σ)))
    (xm_br (x1 = 2)
    (xm_ix x2 60 (fun j3 => some (some (.int (σ.1 37 j3)), σ)))
    (xm_br (x1 = 3)
    (xm_ix x2 60 (fun j4 => some (some (.int (σ.1 38 j4)), σ)))
    (none)))) := (xm_it_eq [] 8).trans rfl
noncomputable def X_TO_read (d : Nat) (x1 : Int32) (x2 : Int32) (σ : Sg) : Oz := xm_rn (xm_call d) 1 kc_TO_read 0 [.ref 0, .int x1, .int x2, .null, .null, .null] [] σ
noncomputable def X_TO_read_68 (d : Nat) (x1 : Int32) (x2 : Int32) (x3 : Int32) (x4 : Int32) (σ : Sg) : Oz := xm_rn (xm_call d) 1 kc_TO_read 68 [.ref 0, .int x1, .int x2, .int x3, .int x4, .null] [] σ
set_option maxHeartbeats 8000000 in
set_option maxRecDepth 20000 in
theorem X_TO_read_e (d : Nat) (x1 : Int32) (x2 : Int32) (σ : Sg) : X_TO_read (d + 1) x1 x2 σ =
  xm_cI (X_Sheets_holds d x1 σ) (fun r2 σ1 => xm_br (r2 = 0)
    (some (some (.int (-2)), σ1))
    (xm_cI (X_Net_holds d x2 σ1) (fun r4 σ3 => xm_br (r4 = 0)
      (some (some (.int (-2)), σ3))
      (xm_cI (X_Sheets_isLost d x1 σ3) (fun r6 σ5 => xm_br (r6 = 0)
        (xm_ix x1 4 (fun j7 => X_TO_read_68 (d + 1) x1 x2 (xm_imin (σ5.1 33 j7) (σ5.1 1 1)) 0 σ5))
        (xm_cI (X_Sheets_finding d 1 σ5) (fun r9 σ8 => some (some (.int r9), σ8)))))))) := (xm_it_eq [68] 28).trans rfl
set_option maxHeartbeats 8000000 in
set_option maxRecDepth 20000 in
theorem X_TO_read_68_e (d : Nat) (x1 : Int32) (x2 : Int32) (x3 : Int32) (x4 : Int32) (σ : Sg) : X_TO_read_68 (d + 1) x1 x2 x3 x4 σ =
  xm_br (x3 ≤ x4)
    (some (some (.int x3), σ))
    (xm_cI (X_Sheets_item d x1 x4 σ) (fun r2 σ1 => xm_br (x4 = x2)
      (xm_br (x4 = x2)
        (X_TO_read_68 (d + 1) x1 x2 x3 (x4 + 1) σ1)
        (xm_br (r2 = 1)
          (xm_cV (X_Net_join d x2 x4 1 σ1) (fun σ4 => X_TO_read_68 (d + 1) x1 x2 x3 (x4 + 1) σ4))
          (xm_cV (X_Net_join d x2 x4 0 σ1) (fun σ3 => X_TO_read_68 (d + 1) x1 x2 x3 (x4 + 1) σ3))))
      (xm_cI (X_TO_isBit d r2 σ1) (fun r6 σ5 => xm_br (r6 = 0)
        (some (some (.int x4), σ5))
        (xm_br (x4 = x2)
          (X_TO_read_68 (d + 1) x1 x2 x3 (x4 + 1) σ5)
          (xm_br (r2 = 1)
            (xm_cV (X_Net_join d x2 x4 1 σ5) (fun σ8 => X_TO_read_68 (d + 1) x1 x2 x3 (x4 + 1) σ8))
            (xm_cV (X_Net_join d x2 x4 0 σ5) (fun σ7 => X_TO_read_68 (d + 1) x1 x2 x3 (x4 + 1) σ7)))))))) := (xm_it_eq [68] 31).trans rfl
noncomputable def X_Int_bitCount (d : Nat) (x0 : Int32) (σ : Sg) : Oz := xm_rn (xm_call d) 1 kc_Int_bitCount 0 [.int x0] [] σ
set_option maxHeartbeats 8000000 in
set_option maxRecDepth 20000 in
theorem X_Int_bitCount_e (d : Nat) (x0 : Int32) (σ : Sg) : X_Int_bitCount d x0 σ =
  some (some (.int ((((((((x0 - (((x0.toUInt32 >>> ((1 : Int32).toUInt32 &&& Int32.toUInt32 31)).toInt32) &&& 1431655765)) &&& 858993459) + ((((x0 - (((x0.toUInt32 >>> ((1 : Int32).toUInt32 &&& Int32.toUInt32 31)).toInt32) &&& 1431655765)).toUInt32 >>> ((2 : Int32).toUInt32 &&& Int32.toUInt32 31)).toInt32) &&& 858993459)) + (((((x0 - (((x0.toUInt32 >>> ((1 : Int32).toUInt32 &&& Int32.toUInt32 31)).toInt32) &&& 1431655765)) &&& 858993459) + ((((x0 - (((x0.toUInt32 >>> ((1 : Int32).toUInt32 &&& Int32.toUInt32 31)).toInt32) &&& 1431655765)).toUInt32 >>> ((2 : Int32).toUInt32 &&& Int32.toUInt32 31)).toInt32) &&& 858993459)).toUInt32 >>> ((4 : Int32).toUInt32 &&& Int32.toUInt32 31)).toInt32)) &&& 252645135) + (((((((x0 - (((x0.toUInt32 >>> ((1 : Int32).toUInt32 &&& Int32.toUInt32 31)).toInt32) &&& 1431655765)) &&& 858993459) + ((((x0 - (((x0.toUInt32 >>> ((1 : Int32).toUInt32 &&& Int32.toUInt32 31)).toInt32) &&& 1431655765)).toUInt32 >>> ((2 : Int32).toUInt32 &&& Int32.toUInt32 31)).toInt32) &&& 858993459)) + (((((x0 - (((x0.toUInt32 >>> ((1 : Int32).toUInt32 &&& Int32.toUInt32 31)).toInt32) &&& 1431655765)) &&& 858993459) + ((((x0 - (((x0.toUInt32 >>> ((1 : Int32).toUInt32 &&& Int32.toUInt32 31)).toInt32) &&& 1431655765)).toUInt32 >>> ((2 : Int32).toUInt32 &&& Int32.toUInt32 31)).toInt32) &&& 858993459)).toUInt32 >>> ((4 : Int32).toUInt32 &&& Int32.toUInt32 31)).toInt32)) &&& 252645135).toUInt32 >>> ((8 : Int32).toUInt32 &&& Int32.toUInt32 31)).toInt32)) + ((((((((x0 - (((x0.toUInt32 >>> ((1 : Int32).toUInt32 &&& Int32.toUInt32 31)).toInt32) &&& 1431655765)) &&& 858993459) + ((((x0 - (((x0.toUInt32 >>> ((1 : Int32).toUInt32 &&& Int32.toUInt32 31)).toInt32) &&& 1431655765)).toUInt32 >>> ((2 : Int32).toUInt32 &&& Int32.toUInt32 31)).toInt32) &&& 858993459)) + (((((x0 - (((x0.toUInt32 >>> ((1 : Int32).toUInt32 &&& Int32.toUInt32 31)).toInt32) &&& 1431655765)) &&& 858993459) + ((((x0 - (((x0.toUInt32 >>> ((1 : Int32).toUInt32 &&& Int32.toUInt32 31)).toInt32) &&& 1431655765)).toUInt32 >>> ((2 : Int32).toUInt32 &&& Int32.toUInt32 31)).toInt32) &&& 858993459)).toUInt32 >>> ((4 : Int32).toUInt32 &&& Int32.toUInt32 31)).toInt32)) &&& 252645135) + (((((((x0 - (((x0.toUInt32 >>> ((1 : Int32).toUInt32 &&& Int32.toUInt32 31)).toInt32) &&& 1431655765)) &&& 858993459) + ((((x0 - (((x0.toUInt32 >>> ((1 : Int32).toUInt32 &&& Int32.toUInt32 31)).toInt32) &&& 1431655765)).toUInt32 >>> ((2 : Int32).toUInt32 &&& Int32.toUInt32 31)).toInt32) &&& 858993459)) + (((((x0 - (((x0.toUInt32 >>> ((1 : Int32).toUInt32 &&& Int32.toUInt32 31)).toInt32) &&& 1431655765)) &&& 858993459) + ((((x0 - (((x0.toUInt32 >>> ((1 : Int32).toUInt32 &&& Int32.toUInt32 31)).toInt32) &&& 1431655765)).toUInt32 >>> ((2 : Int32).toUInt32 &&& Int32.toUInt32 31)).toInt32) &&& 858993459)).toUInt32 >>> ((4 : Int32).toUInt32 &&& Int32.toUInt32 31)).toInt32)) &&& 252645135).toUInt32 >>> ((8 : Int32).toUInt32 &&& Int32.toUInt32 31)).toInt32)).toUInt32 >>> ((16 : Int32).toUInt32 &&& Int32.toUInt32 31)).toInt32)) &&& 63)), σ) := (xm_it_eq [] 43).trans rfl
noncomputable def X_Net_degree (d : Nat) (x1 : Int32) (σ : Sg) : Oz := xm_rn (xm_call d) 1 kc_Net_degree 0 [.ref 1, .int x1] [] σ
set_option maxHeartbeats 8000000 in
set_option maxRecDepth 20000 in
theorem X_Net_degree_e (d : Nat) (x1 : Int32) (σ : Sg) : X_Net_degree (d + 1) x1 σ =
  xm_cI (X_Net_holds d x1 σ) (fun r2 σ1 => xm_br (r2 = 0)
    (some (some (.int 0), σ1))
    (xm_ix x1 9 (fun j3 => xm_cI (X_Int_bitCount d (σ1.1 2 j3) σ1) (fun r5 σ4 => some (some (.int r5), σ4))))) := (xm_it_eq [] 12).trans rfl
noncomputable def X_TO_about (d : Nat) (x1 : Int32) (x2 : Int32) (σ : Sg) : Oz := xm_rn (xm_call d) 1 kc_TO_about 0 [.ref 0, .int x1, .int x2] [] σ
set_option maxHeartbeats 8000000 in
set_option maxRecDepth 20000 in
theorem X_TO_about_e (d : Nat) (x1 : Int32) (x2 : Int32) (σ : Sg) : X_TO_about (d + 1) x1 x2 σ =
  xm_cI (X_Net_holds d x1 σ) (fun r2 σ1 => xm_br (r2 = 0)
    (some (some (.int (-2)), σ1))
    (xm_cI (X_TO_isBit d x2 σ1) (fun r4 σ3 => xm_br (r4 = 0)
      (some (some (.int (-2)), σ3))
      (xm_br (x2 = 0)
        (xm_cI (X_Net_degree d x1 σ3) (fun r8 σ7 => some (some (.int r8), σ7)))
        (xm_cI (X_Net_kindOf d x1 σ3) (fun r6 σ5 => some (some (.int r6), σ5))))))) := (xm_it_eq [] 17).trans rfl
noncomputable def X_Net_spread (d : Nat) (x1 : Int32) (x2 : Int32) (x3 : Int32) (σ : Sg) : Oz := xm_rn (xm_call d) 1 kc_Net_spread 0 [.ref 1, .int x1, .int x2, .int x3, .null, .null, .null, .null] [] σ
noncomputable def X_Net_spread_6 (d : Nat) (x2 : Int32) (x3 : Int32) (x4 : Int32) (x5 : Int32) (σ : Sg) : Oz := xm_rn (xm_call d) 1 kc_Net_spread 6 [.ref 1, .null, .int x2, .int x3, .int x4, .int x5, .null, .null] [] σ
noncomputable def X_Net_spread_19 (d : Nat) (x2 : Int32) (x3 : Int32) (x4 : Int32) (x5 : Int32) (x6 : Int32) (x7 : Int32) (σ : Sg) : Oz := xm_rn (xm_call d) 1 kc_Net_spread 19 [.ref 1, .null, .int x2, .int x3, .int x4, .int x5, .int x6, .int x7] [] σ
set_option maxHeartbeats 8000000 in
set_option maxRecDepth 20000 in
theorem X_Net_spread_e (d : Nat) (x1 : Int32) (x2 : Int32) (x3 : Int32) (σ : Sg) : X_Net_spread d x1 x2 x3 σ =
  X_Net_spread_6 d x2 x3 x1 0 σ := (xm_it_eq [6, 19] 5).trans rfl
set_option maxHeartbeats 8000000 in
set_option maxRecDepth 20000 in
theorem X_Net_spread_6_e (d : Nat) (x2 : Int32) (x3 : Int32) (x4 : Int32) (x5 : Int32) (σ : Sg) : X_Net_spread_6 d x2 x3 x4 x5 σ =
  xm_br (x2 ≤ x5)
    (some (some (.int x4), σ))
    (X_Net_spread_19 d x2 x3 x4 x5 x4 0 σ) := (xm_it_eq [6, 19] 8).trans rfl
set_option maxHeartbeats 8000000 in
set_option maxRecDepth 20000 in
theorem X_Net_spread_19_e (d : Nat) (x2 : Int32) (x3 : Int32) (x4 : Int32) (x5 : Int32) (x6 : Int32) (x7 : Int32) (σ : Sg) : X_Net_spread_19 d x2 x3 x4 x5 x6 x7 σ =
  xm_br ((σ.1 1 1) ≤ x7)
    (xm_br (x6 = x4)
      (some (some (.int x4), σ))
      (X_Net_spread_6 d x2 x3 x6 (x5 + 1) σ))
    (xm_br (((x4 >>> (x7 &&& 31)) &&& 1) = 1)
      (xm_ix x7 9 (fun j1 => X_Net_spread_19 d x2 x3 x4 x5 (x6 ||| ((σ.1 2 j1) &&& x3)) (x7 + 1) σ))
      (X_Net_spread_19 d x2 x3 x4 x5 (x6 ||| 0) (x7 + 1) σ)) := (xm_it_eq [6, 19] 24).trans rfl
noncomputable def X_Net_distance (d : Nat) (x1 : Int32) (x2 : Int32) (σ : Sg) : Oz := xm_rn (xm_call d) 1 kc_Net_distance 0 [.ref 1, .int x1, .int x2, .null] [] σ
noncomputable def X_Net_distance_2 (d : Nat) (x1 : Int32) (x2 : Int32) (x3 : Int32) (σ : Sg) : Oz := xm_rn (xm_call d) 1 kc_Net_distance 2 [.ref 1, .int x1, .int x2, .int x3] [] σ
set_option maxHeartbeats 8000000 in
set_option maxRecDepth 20000 in
theorem X_Net_distance_e (d : Nat) (x1 : Int32) (x2 : Int32) (σ : Sg) : X_Net_distance d x1 x2 σ =
  X_Net_distance_2 d x1 x2 0 σ := (xm_it_eq [2] 3).trans rfl
set_option maxHeartbeats 8000000 in
set_option maxRecDepth 20000 in
theorem X_Net_distance_2_e (d : Nat) (x1 : Int32) (x2 : Int32) (x3 : Int32) (σ : Sg) : X_Net_distance_2 (d + 1) x1 x2 x3 σ =
  xm_br (9 ≤ x3)
    (some (some (.int (-1)), σ))
    (xm_cI (X_Net_everyone d σ) (fun r2 σ1 => xm_cI (X_Net_spread d ((1 : Int32) <<< (x1 &&& 31)) x3 r2 σ1) (fun r4 σ3 => xm_br (((r4 >>> (x2 &&& 31)) &&& 1) = 1)
      (some (some (.int x3), σ3))
      (X_Net_distance_2 (d + 1) x1 x2 (x3 + 1) σ3)))) := (xm_it_eq [2] 20).trans rfl
noncomputable def X_TO_far (d : Nat) (x1 : Int32) (x2 : Int32) (σ : Sg) : Oz := xm_rn (xm_call d) 1 kc_TO_far 0 [.ref 0, .int x1, .int x2] [] σ
set_option maxHeartbeats 8000000 in
set_option maxRecDepth 20000 in
theorem X_TO_far_e (d : Nat) (x1 : Int32) (x2 : Int32) (σ : Sg) : X_TO_far (d + 1) x1 x2 σ =
  xm_cI (X_Net_holds d x1 σ) (fun r2 σ1 => xm_br (r2 = 0)
    (some (some (.int (-2)), σ1))
    (xm_cI (X_Net_holds d x2 σ1) (fun r4 σ3 => xm_br (r4 = 0)
      (some (some (.int (-2)), σ3))
      (xm_cI (X_Net_distance d x1 x2 σ3) (fun r6 σ5 => some (some (.int r6), σ5)))))) := (xm_it_eq [] 17).trans rfl
noncomputable def X_TO_isUpTo (d : Nat) (x0 : Int32) (x1 : Int32) (x2 : Int32) (σ : Sg) : Oz := xm_rn (xm_call d) 3 kc_TO_isUpTo 0 [.int x0, .int x1, .int x2] [] σ
set_option maxHeartbeats 8000000 in
set_option maxRecDepth 20000 in
theorem X_TO_isUpTo_e (d : Nat) (x0 : Int32) (x1 : Int32) (x2 : Int32) (σ : Sg) : X_TO_isUpTo d x0 x1 x2 σ =
  xm_br (x0 < x1)
    (some (some (.int 0), σ))
    (xm_br (x2 < x0)
      (some (some (.int 0), σ))
      (some (some (.int 1), σ))) := (xm_it_eq [] 10).trans rfl
noncomputable def X_TO_isSetting (d : Nat) (x1 : Int32) (x2 : Int32) (σ : Sg) : Oz := xm_rn (xm_call d) 3 kc_TO_isSetting 0 [.ref 0, .int x1, .int x2] [] σ
set_option maxHeartbeats 8000000 in
set_option maxRecDepth 20000 in
theorem X_TO_isSetting_e (d : Nat) (x1 : Int32) (x2 : Int32) (σ : Sg) : X_TO_isSetting (d + 1) x1 x2 σ =
  xm_br (x1 = 0)
    (xm_br (x2 = (-1))
      (some (some (.int 1), σ))
      (xm_cI (X_Net_holds d x2 σ) (fun r2 σ1 => xm_br (r2 = 0)
        (some (some (.int 0), σ1))
        (some (some (.int 1), σ1)))))
    (xm_br (x1 = 1)
    (xm_cI (X_TO_isUpTo d x2 1 7 σ) (fun r4 σ3 => xm_bo r4 (some (some (.int r4), σ3))))
    (xm_br (x1 = 2)
    (xm_cI (X_TO_isUpTo d x2 0 99 σ) (fun r6 σ5 => xm_bo r6 (some (some (.int r6), σ5))))
    (xm_br (x1 = 3)
    (xm_cI (X_TO_isUpTo d x2 0 9 σ) (fun r8 σ7 => xm_bo r8 (some (some (.int r8), σ7))))
    (some (some (.int 0), σ))))) := (xm_it_eq [] 14).trans rfl
noncomputable def X_TO_setting (d : Nat) (x1 : Int32) (σ : Sg) : Oz := xm_rn (xm_call d) 1 kc_TO_setting 0 [.ref 0, .int x1] [] σ
set_option maxHeartbeats 8000000 in
set_option maxRecDepth 20000 in
theorem X_TO_setting_e (d : Nat) (x1 : Int32) (σ : Sg) : X_TO_setting d x1 σ =
  xm_br (x1 = 0)
    (some (some (.int (σ.1 0 8)), σ))
    (xm_br (x1 = 1)
    (some (some (.int (σ.1 0 9)), σ))
    (xm_br (x1 = 2)
    (some (some (.int (σ.1 9 11)), σ))
    (some (some (.int (σ.1 9 12)), σ)))) := (xm_it_eq [] 7).trans rfl
noncomputable def X_Records_look (d : Nat) (x1 : Int32) (σ : Sg) : Oz := xm_rn (xm_call d) 0 kc_Records_look 0 [.ref 9, .int x1, .null, .null] [] σ
noncomputable def X_Records_look_7 (d : Nat) (x1 : Int32) (x2 : Int32) (σ : Sg) : Oz := xm_rn (xm_call d) 0 kc_Records_look 7 [.ref 9, .int x1, .int x2, .null] [] σ
set_option maxHeartbeats 8000000 in
set_option maxRecDepth 20000 in
theorem X_Records_look_e (d : Nat) (x1 : Int32) (σ : Sg) : X_Records_look d x1 σ =
  X_Records_look_7 d x1 0 (xm_sI σ 9 11 x1) := (xm_it_eq [7] 6).trans rfl
set_option maxHeartbeats 8000000 in
set_option maxRecDepth 20000 in
theorem X_Records_look_7_e (d : Nat) (x1 : Int32) (x2 : Int32) (σ : Sg) : X_Records_look_7 d x1 x2 σ =
  xm_br ((σ.1 9 9) ≤ x2)
    (some (none, σ))
    (xm_ix x2 24 (fun j1 => xm_br (x1 < (σ.1 13 j1))
      (xm_ix x2 24 (fun j2 => X_Records_look_7 d x1 (x2 + 1) (xm_sI σ 18 j2 0)))
      (xm_ix x2 24 (fun j3 => xm_br ((σ.1 14 j3) ≤ x1)
        (xm_ix x2 24 (fun j4 => X_Records_look_7 d x1 (x2 + 1) (xm_sI σ 18 j4 0)))
        (xm_ix x2 24 (fun j5 => xm_br ((σ.1 10 j5) = (-1))
          (xm_ix x2 24 (fun j6 => X_Records_look_7 d x1 (x2 + 1) (xm_sI σ 18 j6 1)))
          (xm_ix x2 24 (fun j7 => xm_ix (σ.1 10 j7) 24 (fun j8 => xm_br ((σ.1 18 j8) = 0)
            (xm_ix x2 24 (fun j9 => X_Records_look_7 d x1 (x2 + 1) (xm_sI σ 18 j9 0)))
            (xm_ix x2 24 (fun j10 => X_Records_look_7 d x1 (x2 + 1) (xm_sI σ 18 j10 1)))))))))))) := (xm_it_eq [7] 44).trans rfl
noncomputable def X_TO_set (d : Nat) (x1 : Int32) (x2 : Int32) (σ : Sg) : Oz := xm_rn (xm_call d) 1 kc_TO_set 0 [.ref 0, .int x1, .int x2, .null] [] σ
set_option maxHeartbeats 8000000 in
set_option maxRecDepth 20000 in
theorem X_TO_set_e (d : Nat) (x1 : Int32) (x2 : Int32) (σ : Sg) : X_TO_set (d + 1) x1 x2 σ =
  xm_cI (X_TO_isSetting d x1 x2 σ) (fun r2 σ1 => xm_br (r2 = 0)
    (some (some (.int (-5)), σ1))
    (xm_cI (X_TO_setting d x1 σ1) (fun r4 σ3 => xm_br (x1 = 0)
      (some (some (.int r4), (xm_sI σ3 0 8 x2)))
      (xm_br (x1 = 1)
        (some (some (.int r4), (xm_sI σ3 0 9 x2)))
        (xm_br (x1 = 2)
          (xm_cV (X_Records_look d x2 σ3) (fun σ5 => some (some (.int r4), σ5)))
          (some (some (.int r4), (xm_sI σ3 9 12 x2)))))))) := (xm_it_eq [] 25).trans rfl
noncomputable def X_TO_refusal (d : Nat) (x0 : Int32) (σ : Sg) : Oz := xm_rn (xm_call d) 2 kc_TO_refusal 0 [.int x0] [] σ
set_option maxHeartbeats 8000000 in
set_option maxRecDepth 20000 in
theorem X_TO_refusal_e (d : Nat) (x0 : Int32) (σ : Sg) : X_TO_refusal d x0 σ =
  some (some (.long ((-9223372036854775808) - x0.toInt64)), σ) := (xm_it_eq [] 6).trans rfl
noncomputable def X_Arr_fillL_c4 (d : Nat) (x1 : Int64) (σ : Sg) : Oz := xm_rn (xm_call d) 0 kc_Arr_fillL 0 [.ref 4, .long x1, .null, .null, .null] [] σ
noncomputable def X_Arr_fillL_c4_6 (d : Nat) (x1 : Int64) (x3 : Int32) (x4 : Int32) (σ : Sg) : Oz := xm_rn (xm_call d) 0 kc_Arr_fillL 6 [.ref 4, .long x1, .null, .int x3, .int x4] [] σ
set_option maxHeartbeats 8000000 in
set_option maxRecDepth 20000 in
theorem X_Arr_fillL_c4_e (d : Nat) (x1 : Int64) (σ : Sg) : X_Arr_fillL_c4 d x1 σ =
  X_Arr_fillL_c4_6 d x1 0 4608 σ := (xm_it_eq [6] 6).trans rfl
set_option maxHeartbeats 8000000 in
set_option maxRecDepth 20000 in
theorem X_Arr_fillL_c4_6_e (d : Nat) (x1 : Int64) (x3 : Int32) (x4 : Int32) (σ : Sg) : X_Arr_fillL_c4_6 d x1 x3 x4 σ =
  xm_br (x4 ≤ x3)
    (some (none, σ))
    (xm_ix x3 4608 (fun j1 => X_Arr_fillL_c4_6 d x1 (x3 + 1) x4 (xm_sL σ 4 j1 x1))) := (xm_it_eq [6] 10).trans rfl
noncomputable def X_Arr_fillL_c5 (d : Nat) (x1 : Int64) (σ : Sg) : Oz := xm_rn (xm_call d) 0 kc_Arr_fillL 0 [.ref 5, .long x1, .null, .null, .null] [] σ
noncomputable def X_Arr_fillL_c5_6 (d : Nat) (x1 : Int64) (x3 : Int32) (x4 : Int32) (σ : Sg) : Oz := xm_rn (xm_call d) 0 kc_Arr_fillL 6 [.ref 5, .long x1, .null, .int x3, .int x4] [] σ
set_option maxHeartbeats 8000000 in
set_option maxRecDepth 20000 in
theorem X_Arr_fillL_c5_e (d : Nat) (x1 : Int64) (σ : Sg) : X_Arr_fillL_c5 d x1 σ =
  X_Arr_fillL_c5_6 d x1 0 512 σ := (xm_it_eq [6] 6).trans rfl
set_option maxHeartbeats 8000000 in
set_option maxRecDepth 20000 in
theorem X_Arr_fillL_c5_6_e (d : Nat) (x1 : Int64) (x3 : Int32) (x4 : Int32) (σ : Sg) : X_Arr_fillL_c5_6 d x1 x3 x4 σ =
  xm_br (x4 ≤ x3)
    (some (none, σ))
    (xm_ix x3 512 (fun j1 => X_Arr_fillL_c5_6 d x1 (x3 + 1) x4 (xm_sL σ 5 j1 x1))) := (xm_it_eq [6] 10).trans rfl
noncomputable def X_Chains_place (d : Nat) (x0 : Int32) (x1 : Int32) (σ : Sg) : Oz := xm_rn (xm_call d) 1 kc_Chains_place 0 [.int x0, .int x1] [] σ
set_option maxHeartbeats 8000000 in
set_option maxRecDepth 20000 in
theorem X_Chains_place_e (d : Nat) (x0 : Int32) (x1 : Int32) (σ : Sg) : X_Chains_place d x0 x1 σ =
  some (some (.int ((x0 * 9) + x1)), σ) := (xm_it_eq [] 7).trans rfl
noncomputable def X_Chains_begin (d : Nat) (x1 : Int32) (σ : Sg) : Oz := xm_rn (xm_call d) 0 kc_Chains_begin 0 [.ref 3, .int x1, .null] [] σ
noncomputable def X_Chains_begin_23 (d : Nat) (x1 : Int32) (x2 : Int32) (σ : Sg) : Oz := xm_rn (xm_call d) 0 kc_Chains_begin 23 [.ref 3, .int x1, .int x2] [] σ
set_option maxHeartbeats 8000000 in
set_option maxRecDepth 20000 in
theorem X_Chains_begin_e (d : Nat) (x1 : Int32) (σ : Sg) : X_Chains_begin (d + 1) x1 σ =
  xm_cV (X_Arr_fillL_c4 d 0 σ) (fun σ1 => xm_cV (X_Arr_fillL_c5 d 0 σ1) (fun σ2 => X_Chains_begin_23 (d + 1) x1 0 (xm_sL σ2 3 6 0))) := (xm_it_eq [23] 14).trans rfl
set_option maxHeartbeats 8000000 in
set_option maxRecDepth 20000 in
theorem X_Chains_begin_23_e (d : Nat) (x1 : Int32) (x2 : Int32) (σ : Sg) : X_Chains_begin_23 (d + 1) x1 x2 σ =
  xm_br ((σ.1 1 1) ≤ x2)
    (some (none, σ))
    (xm_br (x1 = (-1))
      (xm_cI (X_Chains_place d ((1 : Int32) <<< (x2 &&& 31)) x2 σ) (fun r2 σ1 => xm_ix r2 4608 (fun j3 => X_Chains_begin_23 (d + 1) x1 (x2 + 1) (xm_sL (xm_sL σ1 4 j3 91445760000) 3 6 ((σ1.2 3 6) + 91445760000)))))
      (xm_br (x1 = x2)
        (xm_cI (X_Chains_place d ((1 : Int32) <<< (x2 &&& 31)) x2 σ) (fun r5 σ4 => xm_ix r5 4608 (fun j6 => X_Chains_begin_23 (d + 1) x1 (x2 + 1) (xm_sL (xm_sL σ4 4 j6 91445760000) 3 6 ((σ4.2 3 6) + 91445760000)))))
        (X_Chains_begin_23 (d + 1) x1 (x2 + 1) σ))) := (xm_it_eq [23] 29).trans rfl
noncomputable def X_Chains_goOn (d : Nat) (x1 : Int32) (x2 : Int32) (x3 : Int32) (σ : Sg) : Oz := xm_rn (xm_call d) 0 kc_Chains_goOn 0 [.ref 3, .int x1, .int x2, .int x3, .null, .null, .null, .null, .null] [] σ
noncomputable def X_Chains_goOn_70 (d : Nat) (x1 : Int32) (x4 : Int64) (x6 : Int32) (x7 : Int32) (x8 : Int32) (σ : Sg) : Oz := xm_rn (xm_call d) 0 kc_Chains_goOn 70 [.ref 3, .int x1, .null, .null, .long x4, .null, .int x6, .int x7, .int x8] [] σ
set_option maxHeartbeats 8000000 in
set_option maxRecDepth 20000 in
theorem X_Chains_goOn_e (d : Nat) (x1 : Int32) (x2 : Int32) (x3 : Int32) (σ : Sg) : X_Chains_goOn (d + 1) x1 x2 x3 σ =
  xm_cI (X_Chains_place d x1 x2 σ) (fun r2 σ1 => xm_ix r2 4608 (fun j3 => xm_br ((lg_cmp (σ1.2 4 j3) 0) = 0)
    (some (none, σ1))
    (xm_ix x2 9 (fun j4 => xm_cI (X_Int_bitCount d ((σ1.1 2 j4) &&& (x1 ^^^ (-1))) σ1) (fun r6 σ5 => xm_br (r6 = 0)
      (xm_ix x1 512 (fun j7 => xm_ix x1 512 (fun j8 => some (none, (xm_sL σ5 5 j8 ((σ5.2 5 j7) + (σ1.2 4 j3)))))))
      (xm_cI (X_Int_bitCount d x1 σ5) (fun r10 σ9 => xm_br (r10 < x3)
        (X_Chains_goOn_70 (d + 1) x1 (σ1.2 4 j3) ((σ1.1 2 j4) &&& (x1 ^^^ (-1))) r6 0 σ9)
        (xm_ix x1 512 (fun j11 => xm_ix x1 512 (fun j12 => some (none, (xm_sL σ9 5 j12 ((σ9.2 5 j11) + (σ1.2 4 j3)))))))))))))) := (xm_it_eq [70] 40).trans rfl
set_option maxHeartbeats 8000000 in
set_option maxRecDepth 20000 in
theorem X_Chains_goOn_70_e (d : Nat) (x1 : Int32) (x4 : Int64) (x6 : Int32) (x7 : Int32) (x8 : Int32) (σ : Sg) : X_Chains_goOn_70 (d + 1) x1 x4 x6 x7 x8 σ =
  xm_br ((σ.1 1 1) ≤ x8)
    (some (none, σ))
    (xm_br (((x6 >>> (x8 &&& 31)) &&& 1) = 1)
      (xm_cI (X_Chains_place d (x1 ||| ((1 : Int32) <<< (x8 &&& 31))) x8 σ) (fun r2 σ1 => xm_ix r2 4608 (fun j3 => xm_dvL x7.toInt64 (xm_ix r2 4608 (fun j4 => X_Chains_goOn_70 (d + 1) x1 x4 x6 x7 (x8 + 1) (xm_sL σ1 4 j4 ((σ1.2 4 j3) + (x4 / x7.toInt64))))))))
      (X_Chains_goOn_70 (d + 1) x1 x4 x6 x7 (x8 + 1) σ)) := (xm_it_eq [70] 32).trans rfl
noncomputable def X_Chains_follow (d : Nat) (x1 : Int32) (x2 : Int32) (σ : Sg) : Oz := xm_rn (xm_call d) 0 kc_Chains_follow 0 [.ref 3, .int x1, .int x2, .null, .null, .null] [] σ
noncomputable def X_Chains_follow_49 (d : Nat) (x1 : Int32) (x2 : Int32) (x4 : Int32) (σ : Sg) : Oz := xm_rn (xm_call d) 0 kc_Chains_follow 49 [.ref 3, .int x1, .int x2, .null, .int x4, .null] [] σ
noncomputable def X_Chains_follow_64 (d : Nat) (x1 : Int32) (x2 : Int32) (x4 : Int32) (x5 : Int32) (σ : Sg) : Oz := xm_rn (xm_call d) 0 kc_Chains_follow 64 [.ref 3, .int x1, .int x2, .null, .int x4, .int x5] [] σ
set_option maxHeartbeats 8000000 in
set_option maxRecDepth 20000 in
theorem X_Chains_follow_e (d : Nat) (x1 : Int32) (x2 : Int32) (σ : Sg) : X_Chains_follow (d + 1) x1 x2 σ =
  xm_br ((σ.1 3 4) = x1)
    (xm_br ((σ.1 3 5) = x2)
      (xm_br ((σ.1 3 3) = (σ.1 1 3))
        (some (none, σ))
        (xm_cV (X_Chains_begin d x1 σ) (fun σ3 => X_Chains_follow_49 (d + 1) x1 x2 1 σ3)))
      (xm_cV (X_Chains_begin d x1 σ) (fun σ2 => X_Chains_follow_49 (d + 1) x1 x2 1 σ2)))
    (xm_cV (X_Chains_begin d x1 σ) (fun σ1 => X_Chains_follow_49 (d + 1) x1 x2 1 σ1)) := (xm_it_eq [49, 64] 25).trans rfl
set_option maxHeartbeats 8000000 in
set_option maxRecDepth 20000 in
theorem X_Chains_follow_49_e (d : Nat) (x1 : Int32) (x2 : Int32) (x4 : Int32) (σ : Sg) : X_Chains_follow_49 (d + 1) x1 x2 x4 σ =
  xm_cI (X_Net_everyone d σ) (fun r2 σ1 => xm_br (r2 < x4)
    (some (none, (xm_sI (xm_sI (xm_sI σ1 3 4 x1) 3 5 x2) 3 3 (σ1.1 1 3))))
    (X_Chains_follow_64 (d + 1) x1 x2 x4 0 σ1)) := (xm_it_eq [49, 64] 18).trans rfl
set_option maxHeartbeats 8000000 in
set_option maxRecDepth 20000 in
theorem X_Chains_follow_64_e (d : Nat) (x1 : Int32) (x2 : Int32) (x4 : Int32) (x5 : Int32) (σ : Sg) : X_Chains_follow_64 (d + 1) x1 x2 x4 x5 σ =
  xm_br ((σ.1 1 1) ≤ x5)
    (X_Chains_follow_49 (d + 1) x1 x2 (x4 + 1) σ)
    (xm_cV (X_Chains_goOn d x4 x5 x2 σ) (fun σ1 => X_Chains_follow_64 (d + 1) x1 x2 x4 (x5 + 1) σ1)) := (xm_it_eq [49, 64] 13).trans rfl
noncomputable def X_Chains_holding (d : Nat) (x1 : Int32) (σ : Sg) : Oz := xm_rn (xm_call d) 2 kc_Chains_holding 0 [.ref 3, .int x1, .null, .null, .null] [] σ
noncomputable def X_Chains_holding_5 (d : Nat) (x1 : Int32) (x2 : Int64) (x4 : Int32) (σ : Sg) : Oz := xm_rn (xm_call d) 2 kc_Chains_holding 5 [.ref 3, .int x1, .long x2, .null, .int x4] [] σ
set_option maxHeartbeats 8000000 in
set_option maxRecDepth 20000 in
theorem X_Chains_holding_e (d : Nat) (x1 : Int32) (σ : Sg) : X_Chains_holding d x1 σ =
  X_Chains_holding_5 d x1 0 1 σ := (xm_it_eq [5] 5).trans rfl
set_option maxHeartbeats 8000000 in
set_option maxRecDepth 20000 in
theorem X_Chains_holding_5_e (d : Nat) (x1 : Int32) (x2 : Int64) (x4 : Int32) (σ : Sg) : X_Chains_holding_5 (d + 1) x1 x2 x4 σ =
  xm_cI (X_Net_everyone d σ) (fun r2 σ1 => xm_br (r2 < x4)
    (some (some (.long x2), σ1))
    (xm_br ((x4 &&& x1) = x1)
      (xm_ix x4 512 (fun j3 => X_Chains_holding_5 (d + 1) x1 (x2 + (σ1.2 5 j3)) (x4 + 1) σ1))
      (X_Chains_holding_5 (d + 1) x1 (x2 + 0) (x4 + 1) σ1))) := (xm_it_eq [5] 21).trans rfl
noncomputable def X_TO_greatestCommon (d : Nat) (x0 : Int64) (x2 : Int64) (σ : Sg) : Oz := xm_rn (xm_call d) 2 kc_TO_greatestCommon 0 [.long x0, .null, .long x2, .null, .null, .null, .null, .null, .null, .null, .null] [] σ
noncomputable def X_TO_greatestCommon_9 (d : Nat) (x4 : Int64) (x6 : Int64) (x8 : Int32) (σ : Sg) : Oz := xm_rn (xm_call d) 2 kc_TO_greatestCommon 9 [.null, .null, .null, .null, .long x4, .null, .long x6, .null, .int x8, .null, .null] [] σ
set_option maxHeartbeats 8000000 in
set_option maxRecDepth 20000 in
theorem X_TO_greatestCommon_e (d : Nat) (x0 : Int64) (x2 : Int64) (σ : Sg) : X_TO_greatestCommon d x0 x2 σ =
  X_TO_greatestCommon_9 d x0 x2 0 σ := (xm_it_eq [9] 7).trans rfl
set_option maxHeartbeats 8000000 in
set_option maxRecDepth 20000 in
theorem X_TO_greatestCommon_9_e (d : Nat) (x4 : Int64) (x6 : Int64) (x8 : Int32) (σ : Sg) : X_TO_greatestCommon_9 d x4 x6 x8 σ =
  xm_br (200 ≤ x8)
    (some (some (.long x4), σ))
    (xm_br ((lg_cmp x6 0) = 0)
      (some (some (.long x4), σ))
      (xm_dvL x6 (X_TO_greatestCommon_9 d x6 (x4 - x4 / x6 * x6) (x8 + 1) σ))) := (xm_it_eq [9] 18).trans rfl
noncomputable def X_TO_fraction (d : Nat) (x0 : Int64) (x2 : Int64) (x4 : Int32) (σ : Sg) : Oz := xm_rn (xm_call d) 2 kc_TO_fraction 0 [.long x0, .null, .long x2, .null, .int x4, .null, .null] [] σ
set_option maxHeartbeats 8000000 in
set_option maxRecDepth 20000 in
theorem X_TO_fraction_e (d : Nat) (x0 : Int64) (x2 : Int64) (x4 : Int32) (σ : Sg) : X_TO_fraction (d + 1) x0 x2 x4 σ =
  xm_cL (X_TO_greatestCommon d x0 x2 σ) (fun r2 σ1 => xm_br ((lg_cmp x2 0) ≤ 0)
    (xm_cL (X_TO_refusal d (-3) σ1) (fun r4 σ3 => some (some (.long r4), σ3)))
    (xm_br (0 < (lg_cmp r2 0))
      (xm_br (x4 = 0)
        (xm_dvL r2 (some (some (.long (x0 / r2)), σ1)))
        (xm_dvL r2 (some (some (.long (x2 / r2)), σ1))))
      (xm_cL (X_TO_refusal d (-3) σ1) (fun r6 σ5 => some (some (.long r6), σ5))))) := (xm_it_eq [] 20).trans rfl
noncomputable def X_TO_found (d : Nat) (x1 : Int32) (x2 : Int32) (σ : Sg) : Oz := xm_rn (xm_call d) 2 kc_TO_found 0 [.ref 0, .int x1, .int x2] [] σ
set_option maxHeartbeats 8000000 in
set_option maxRecDepth 20000 in
theorem X_TO_found_e (d : Nat) (x1 : Int32) (x2 : Int32) (σ : Sg) : X_TO_found (d + 1) x1 x2 σ =
  xm_cI (X_Net_holds d x1 σ) (fun r2 σ1 => xm_br (r2 = 0)
    (xm_cL (X_TO_refusal d (-2) σ1) (fun r4 σ3 => some (some (.long r4), σ3)))
    (xm_cI (X_TO_isBit d x2 σ1) (fun r6 σ5 => xm_br (r6 = 0)
      (xm_cL (X_TO_refusal d (-2) σ5) (fun r13 σ12 => some (some (.long r13), σ12)))
      (xm_cV (X_Chains_follow d (σ5.1 0 8) (σ5.1 0 9) σ5) (fun σ7 => xm_cL (X_Chains_holding d ((1 : Int32) <<< (x1 &&& 31)) σ7) (fun r9 σ8 => xm_cL (X_TO_fraction d r9 (σ8.2 3 6) x2 σ8) (fun r11 σ10 => some (some (.long r11), σ10)))))))) := (xm_it_eq [] 28).trans rfl
noncomputable def X_TO_both (d : Nat) (x1 : Int32) (x2 : Int32) (x3 : Int32) (σ : Sg) : Oz := xm_rn (xm_call d) 2 kc_TO_both 0 [.ref 0, .int x1, .int x2, .int x3] [] σ
set_option maxHeartbeats 8000000 in
set_option maxRecDepth 20000 in
theorem X_TO_both_e (d : Nat) (x1 : Int32) (x2 : Int32) (x3 : Int32) (σ : Sg) : X_TO_both (d + 1) x1 x2 x3 σ =
  xm_cI (X_Net_holds d x1 σ) (fun r2 σ1 => xm_br (r2 = 0)
    (xm_cL (X_TO_refusal d (-2) σ1) (fun r4 σ3 => some (some (.long r4), σ3)))
    (xm_cI (X_Net_holds d x2 σ1) (fun r6 σ5 => xm_br (r6 = 0)
      (xm_cL (X_TO_refusal d (-2) σ5) (fun r8 σ7 => some (some (.long r8), σ7)))
      (xm_cI (X_TO_isBit d x3 σ5) (fun r10 σ9 => xm_br (r10 = 0)
        (xm_cL (X_TO_refusal d (-2) σ9) (fun r17 σ16 => some (some (.long r17), σ16)))
        (xm_cV (X_Chains_follow d (σ9.1 0 8) (σ9.1 0 9) σ9) (fun σ11 => xm_cL (X_Chains_holding d (((1 : Int32) <<< (x1 &&& 31)) ||| ((1 : Int32) <<< (x2 &&& 31))) σ11) (fun r13 σ12 => xm_cL (X_TO_fraction d r13 (σ12.2 3 6) x3 σ12) (fun r15 σ14 => some (some (.long r15), σ14)))))))))) := (xm_it_eq [] 37).trans rfl
noncomputable def X_Chains_ofSize (d : Nat) (x1 : Int32) (σ : Sg) : Oz := xm_rn (xm_call d) 2 kc_Chains_ofSize 0 [.ref 3, .int x1, .null, .null, .null] [] σ
noncomputable def X_Chains_ofSize_5 (d : Nat) (x1 : Int32) (x2 : Int64) (x4 : Int32) (σ : Sg) : Oz := xm_rn (xm_call d) 2 kc_Chains_ofSize 5 [.ref 3, .int x1, .long x2, .null, .int x4] [] σ
set_option maxHeartbeats 8000000 in
set_option maxRecDepth 20000 in
theorem X_Chains_ofSize_e (d : Nat) (x1 : Int32) (σ : Sg) : X_Chains_ofSize d x1 σ =
  X_Chains_ofSize_5 d x1 0 1 σ := (xm_it_eq [5] 5).trans rfl
set_option maxHeartbeats 8000000 in
set_option maxRecDepth 20000 in
theorem X_Chains_ofSize_5_e (d : Nat) (x1 : Int32) (x2 : Int64) (x4 : Int32) (σ : Sg) : X_Chains_ofSize_5 (d + 1) x1 x2 x4 σ =
  xm_cI (X_Net_everyone d σ) (fun r2 σ1 => xm_br (r2 < x4)
    (some (some (.long x2), σ1))
    (xm_cI (X_Int_bitCount d x4 σ1) (fun r4 σ3 => xm_br (r4 = x1)
      (xm_ix x4 512 (fun j5 => X_Chains_ofSize_5 (d + 1) x1 (x2 + (σ3.2 5 j5)) (x4 + 1) σ3))
      (X_Chains_ofSize_5 (d + 1) x1 (x2 + 0) (x4 + 1) σ3)))) := (xm_it_eq [5] 20).trans rfl
