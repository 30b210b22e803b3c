set_option maxRecDepth 100000 in
set_option maxHeartbeats 8000000 in
theorem eL_law_18 {L : Nat} {xs : Nat → Int32} {m : Nat → Nat → Int32} {Q : Option Value → (Nat → Nat → Int32) → Prop} {x3 : Int32} (h : (((Int32.ofNat L) - 5) < x3 → Q (some (.int 1)) m) ∧ (¬ ((Int32.ofNat L) - 5) < x3 → vp_in x3 L ∧ (((xs (Int32.toNatClampNeg x3)) &&& 31) = 0 → vp_in (x3 + 1) L ∧ vp_in (x3 + 2) L ∧ vp_in (x3 + 3) L ∧ CallI (some (L, xs)) mX8_feed [.ref 0, .int (xs (Int32.toNatClampNeg (x3 + 1))), .long (((Int32.toInt64 (xs (Int32.toNatClampNeg (x3 + 2)))) <<< (Int32.toInt64 32 &&& 63)) ||| ((Int32.toInt64 (xs (Int32.toNatClampNeg (x3 + 3)))) &&& 4294967295))] m (fun v2 m1 => vp_in (x3 + 1) L ∧ vp_in (x3 + 2) L ∧ vp_in (x3 + 3) L ∧ CallI (some (L, xs)) mX9_feed [.ref 77, .int (xs (Int32.toNatClampNeg (x3 + 1))), .long (((Int32.toInt64 (xs (Int32.toNatClampNeg (x3 + 2)))) <<< (Int32.toInt64 32 &&& 63)) ||| ((Int32.toInt64 (xs (Int32.toNatClampNeg (x3 + 3)))) &&& 4294967295))] m1 (fun v4 m3 => (v2 = v4 → Wp (some (L, xs)) mL_law 18 [some (.ref 2000), some (.ref 0), some (.ref 77), some (.int (x3 + 5))] [] m3 Q) ∧ (¬ v2 = v4 → Q (some (.int 0)) m3)))) ∧ (((xs (Int32.toNatClampNeg x3)) &&& 31) = 1 → CallI (some (L, xs)) mX8_wall [.ref 0] m (fun v6 m5 => CallI (some (L, xs)) mX9_wall [.ref 77] m5 (fun v8 m7 => (v6 = v8 → Wp (some (L, xs)) mL_law 18 [some (.ref 2000), some (.ref 0), some (.ref 77), some (.int (x3 + 5))] [] m7 Q) ∧ (¬ v6 = v8 → Q (some (.int 0)) m7)))) ∧ (((xs (Int32.toNatClampNeg x3)) &&& 31) = 2 → CallI (some (L, xs)) mX8_fault [.ref 0] m (fun v10 m9 => CallI (some (L, xs)) mX9_fault [.ref 77] m9 (fun v12 m11 => (v10 = v12 → Wp (some (L, xs)) mL_law 18 [some (.ref 2000), some (.ref 0), some (.ref 77), some (.int (x3 + 5))] [] m11 Q) ∧ (¬ v10 = v12 → Q (some (.int 0)) m11)))) ∧ (((xs (Int32.toNatClampNeg x3)) &&& 31) = 3 → vp_in (x3 + 1) L ∧ CallI (some (L, xs)) mX8_told [.ref 0, .int (xs (Int32.toNatClampNeg (x3 + 1)))] m (fun v14 m13 => vp_in (x3 + 1) L ∧ CallI (some (L, xs)) mX9_told [.ref 77, .int (xs (Int32.toNatClampNeg (x3 + 1)))] m13 (fun v16 m15 => (v14 = v16 → Wp (some (L, xs)) mL_law 18 [some (.ref 2000), some (.ref 0), some (.ref 77), some (.int (x3 + 5))] [] m15 Q) ∧ (¬ v14 = v16 → Q (some (.int 0)) m15)))) ∧ (((xs (Int32.toNatClampNeg x3)) &&& 31) = 4 → vp_in (x3 + 1) L ∧ vp_in (x3 + 2) L ∧ CallI (some (L, xs)) mX8_kind [.ref 0, .int (xs (Int32.toNatClampNeg (x3 + 1))), .int (xs (Int32.toNatClampNeg (x3 + 2)))] m (fun v18 m17 => vp_in (x3 + 1) L ∧ vp_in (x3 + 2) L ∧ CallI (some (L, xs)) mX9_kind [.ref 77, .int (xs (Int32.toNatClampNeg (x3 + 1))), .int (xs (Int32.toNatClampNeg (x3 + 2)))] m17 (fun v20 m19 => (v18 = v20 → Wp (some (L, xs)) mL_law 18 [some (.ref 2000), some (.ref 0), some (.ref 77), some (.int (x3 + 5))] [] m19 Q) ∧ (¬ v18 = v20 → Q (some (.int 0)) m19)))) ∧ (((xs (Int32.toNatClampNeg x3)) &&& 31) = 5 → vp_in (x3 + 1) L ∧ CallI (some (L, xs)) mX8_passes [.ref 0, .int (xs (Int32.toNatClampNeg (x3 + 1)))] m (fun v22 m21 => vp_in (x3 + 1) L ∧ CallI (some (L, xs)) mX9_passes [.ref 77, .int (xs (Int32.toNatClampNeg (x3 + 1)))] m21 (fun v24 m23 => (v22 = v24 → Wp (some (L, xs)) mL_law 18 [some (.ref 2000), some (.ref 0), some (.ref 77), some (.int (x3 + 5))] [] m23 Q) ∧ (¬ v22 = v24 → Q (some (.int 0)) m23)))) ∧ (((xs (Int32.toNatClampNeg x3)) &&& 31) = 6 → vp_in (x3 + 1) L ∧ vp_in (x3 + 2) L ∧ CallI (some (L, xs)) mX8_bare [.ref 0, .int (xs (Int32.toNatClampNeg (x3 + 1))), .int (xs (Int32.toNatClampNeg (x3 + 2)))] m (fun v26 m25 => vp_in (x3 + 1) L ∧ vp_in (x3 + 2) L ∧ CallI (some (L, xs)) mX9_bare [.ref 77, .int (xs (Int32.toNatClampNeg (x3 + 1))), .int (xs (Int32.toNatClampNeg (x3 + 2)))] m25 (fun v28 m27 => (v26 = v28 → Wp (some (L, xs)) mL_law 18 [some (.ref 2000), some (.ref 0), some (.ref 77), some (.int (x3 + 5))] [] m27 Q) ∧ (¬ v26 = v28 → Q (some (.int 0)) m27)))) ∧ (((xs (Int32.toNatClampNeg x3)) &&& 31) = 7 → vp_in (x3 + 1) L ∧ vp_in (x3 + 2) L ∧ vp_in (x3 + 3) L ∧ CallI (some (L, xs)) mX8_paste [.ref 0, .int (xs (Int32.toNatClampNeg (x3 + 1))), .int (xs (Int32.toNatClampNeg (x3 + 2))), .int (xs (Int32.toNatClampNeg (x3 + 3)))] m (fun v30 m29 => vp_in (x3 + 1) L ∧ vp_in (x3 + 2) L ∧ vp_in (x3 + 3) L ∧ CallI (some (L, xs)) mX9_paste [.ref 77, .int (xs (Int32.toNatClampNeg (x3 + 1))), .int (xs (Int32.toNatClampNeg (x3 + 2))), .int (xs (Int32.toNatClampNeg (x3 + 3)))] m29 (fun v32 m31 => (v30 = v32 → Wp (some (L, xs)) mL_law 18 [some (.ref 2000), some (.ref 0), some (.ref 77), some (.int (x3 + 5))] [] m31 Q) ∧ (¬ v30 = v32 → Q (some (.int 0)) m31)))) ∧ (((xs (Int32.toNatClampNeg x3)) &&& 31) = 8 → vp_in (x3 + 1) L ∧ CallI (some (L, xs)) mX8_days [.ref 0, .int (xs (Int32.toNatClampNeg (x3 + 1)))] m (fun v34 m33 => vp_in (x3 + 1) L ∧ CallI (some (L, xs)) mX9_days [.ref 77, .int (xs (Int32.toNatClampNeg (x3 + 1)))] m33 (fun v36 m35 => (v34 = v36 → Wp (some (L, xs)) mL_law 18 [some (.ref 2000), some (.ref 0), some (.ref 77), some (.int (x3 + 5))] [] m35 Q) ∧ (¬ v34 = v36 → Q (some (.int 0)) m35)))) ∧ (((xs (Int32.toNatClampNeg x3)) &&& 31) = 9 → vp_in (x3 + 1) L ∧ vp_in (x3 + 2) L ∧ CallI (some (L, xs)) mX8_above [.ref 0, .int (xs (Int32.toNatClampNeg (x3 + 1))), .int (xs (Int32.toNatClampNeg (x3 + 2)))] m (fun v38 m37 => vp_in (x3 + 1) L ∧ vp_in (x3 + 2) L ∧ CallI (some (L, xs)) mX9_above [.ref 77, .int (xs (Int32.toNatClampNeg (x3 + 1))), .int (xs (Int32.toNatClampNeg (x3 + 2)))] m37 (fun v40 m39 => (v38 = v40 → Wp (some (L, xs)) mL_law 18 [some (.ref 2000), some (.ref 0), some (.ref 77), some (.int (x3 + 5))] [] m39 Q) ∧ (¬ v38 = v40 → Q (some (.int 0)) m39)))) ∧ (((xs (Int32.toNatClampNeg x3)) &&& 31) = 10 → vp_in (x3 + 1) L ∧ vp_in (x3 + 2) L ∧ CallI (some (L, xs)) mX8_bill [.ref 0, .int (xs (Int32.toNatClampNeg (x3 + 1))), .int (xs (Int32.toNatClampNeg (x3 + 2)))] m (fun v42 m41 => vp_in (x3 + 1) L ∧ vp_in (x3 + 2) L ∧ CallI (some (L, xs)) mX9_bill [.ref 77, .int (xs (Int32.toNatClampNeg (x3 + 1))), .int (xs (Int32.toNatClampNeg (x3 + 2)))] m41 (fun v44 m43 => (v42 = v44 → Wp (some (L, xs)) mL_law 18 [some (.ref 2000), some (.ref 0), some (.ref 77), some (.int (x3 + 5))] [] m43 Q) ∧ (¬ v42 = v44 → Q (some (.int 0)) m43)))) ∧ (((xs (Int32.toNatClampNeg x3)) &&& 31) = 11 → vp_in (x3 + 1) L ∧ CallI (some (L, xs)) mX8_over [.ref 0, .int (xs (Int32.toNatClampNeg (x3 + 1)))] m (fun v46 m45 => vp_in (x3 + 1) L ∧ CallI (some (L, xs)) mX9_over [.ref 77, .int (xs (Int32.toNatClampNeg (x3 + 1)))] m45 (fun v48 m47 => (v46 = v48 → Wp (some (L, xs)) mL_law 18 [some (.ref 2000), some (.ref 0), some (.ref 77), some (.int (x3 + 5))] [] m47 Q) ∧ (¬ v46 = v48 → Q (some (.int 0)) m47)))) ∧ (((xs (Int32.toNatClampNeg x3)) &&& 31) = 12 → vp_in (x3 + 1) L ∧ CallI (some (L, xs)) mX8_free [.ref 0, .int (xs (Int32.toNatClampNeg (x3 + 1)))] m (fun v50 m49 => vp_in (x3 + 1) L ∧ CallI (some (L, xs)) mX9_free [.ref 77, .int (xs (Int32.toNatClampNeg (x3 + 1)))] m49 (fun v52 m51 => (v50 = v52 → Wp (some (L, xs)) mL_law 18 [some (.ref 2000), some (.ref 0), some (.ref 77), some (.int (x3 + 5))] [] m51 Q) ∧ (¬ v50 = v52 → Q (some (.int 0)) m51)))) ∧ (((xs (Int32.toNatClampNeg x3)) &&& 31) = 13 → vp_in (x3 + 1) L ∧ CallI (some (L, xs)) mX8_reveal [.ref 0, .int (xs (Int32.toNatClampNeg (x3 + 1)))] m (fun v54 m53 => vp_in (x3 + 1) L ∧ CallI (some (L, xs)) mX9_reveal [.ref 77, .int (xs (Int32.toNatClampNeg (x3 + 1)))] m53 (fun v56 m55 => (v54 = v56 → Wp (some (L, xs)) mL_law 18 [some (.ref 2000), some (.ref 0), some (.ref 77), some (.int (x3 + 5))] [] m55 Q) ∧ (¬ v54 = v56 → Q (some (.int 0)) m55)))) ∧ (((xs (Int32.toNatClampNeg x3)) &&& 31) = 14 → vp_in (x3 + 1) L ∧ CallI (some (L, xs)) mX8_peel [.ref 0, .int (xs (Int32.toNatClampNeg (x3 + 1)))] m (fun v58 m57 => vp_in (x3 + 1) L ∧ CallI (some (L, xs)) mX9_peel [.ref 77, .int (xs (Int32.toNatClampNeg (x3 + 1)))] m57 (fun v60 m59 => (v58 = v60 → Wp (some (L, xs)) mL_law 18 [some (.ref 2000), some (.ref 0), some (.ref 77), some (.int (x3 + 5))] [] m59 Q) ∧ (¬ v58 = v60 → Q (some (.int 0)) m59)))) ∧ (((xs (Int32.toNatClampNeg x3)) &&& 31) = 15 → vp_in (x3 + 1) L ∧ vp_in (x3 + 2) L ∧ CallI (some (L, xs)) mX8_tear [.ref 0, .int (xs (Int32.toNatClampNeg (x3 + 1))), .int (xs (Int32.toNatClampNeg (x3 + 2)))] m (fun v62 m61 => vp_in (x3 + 1) L ∧ vp_in (x3 + 2) L ∧ CallI (some (L, xs)) mX9_tear [.ref 77, .int (xs (Int32.toNatClampNeg (x3 + 1))), .int (xs (Int32.toNatClampNeg (x3 + 2)))] m61 (fun v64 m63 => (v62 = v64 → Wp (some (L, xs)) mL_law 18 [some (.ref 2000), some (.ref 0), some (.ref 77), some (.int (x3 + 5))] [] m63 Q) ∧ (¬ v62 = v64 → Q (some (.int 0)) m63)))) ∧ (((xs (Int32.toNatClampNeg x3)) &&& 31) = 16 → vp_in (x3 + 1) L ∧ CallI (some (L, xs)) mX8_rain [.ref 0, .int (xs (Int32.toNatClampNeg (x3 + 1)))] m (fun v66 m65 => vp_in (x3 + 1) L ∧ CallI (some (L, xs)) mX9_rain [.ref 77, .int (xs (Int32.toNatClampNeg (x3 + 1)))] m65 (fun v68 m67 => (v66 = v68 → Wp (some (L, xs)) mL_law 18 [some (.ref 2000), some (.ref 0), some (.ref 77), some (.int (x3 + 5))] [] m67 Q) ∧ (¬ v66 = v68 → Q (some (.int 0)) m67)))) ∧ (((xs (Int32.toNatClampNeg x3)) &&& 31) = 17 → vp_in (x3 + 1) L ∧ vp_in (x3 + 2) L ∧ CallI (some (L, xs)) mX8_owner [.ref 0, .int (xs (Int32.toNatClampNeg (x3 + 1))), .int (xs (Int32.toNatClampNeg (x3 + 2)))] m (fun v70 m69 => vp_in (x3 + 1) L ∧ vp_in (x3 + 2) L ∧ CallI (some (L, xs)) mX9_owner [.ref 77, .int (xs (Int32.toNatClampNeg (x3 + 1))), .int (xs (Int32.toNatClampNeg (x3 + 2)))] m69 (fun v72 m71 => (v70 = v72 → Wp (some (L, xs)) mL_law 18 [some (.ref 2000), some (.ref 0), some (.ref 77), some (.int (x3 + 5))] [] m71 Q) ∧ (¬ v70 = v72 → Q (some (.int 0)) m71)))) ∧ (((xs (Int32.toNatClampNeg x3)) &&& 31) = 18 → vp_in (x3 + 1) L ∧ vp_in (x3 + 2) L ∧ vp_in (x3 + 3) L ∧ CallI (some (L, xs)) mX8_show [.ref 0, .int (xs (Int32.toNatClampNeg (x3 + 1))), .int (xs (Int32.toNatClampNeg (x3 + 2))), .int (xs (Int32.toNatClampNeg (x3 + 3)))] m (fun v74 m73 => vp_in (x3 + 1) L ∧ vp_in (x3 + 2) L ∧ vp_in (x3 + 3) L ∧ CallI (some (L, xs)) mX9_show [.ref 77, .int (xs (Int32.toNatClampNeg (x3 + 1))), .int (xs (Int32.toNatClampNeg (x3 + 2))), .int (xs (Int32.toNatClampNeg (x3 + 3)))] m73 (fun v76 m75 => (v74 = v76 → Wp (some (L, xs)) mL_law 18 [some (.ref 2000), some (.ref 0), some (.ref 77), some (.int (x3 + 5))] [] m75 Q) ∧ (¬ v74 = v76 → Q (some (.int 0)) m75)))) ∧ (((xs (Int32.toNatClampNeg x3)) &&& 31) = 19 → vp_in (x3 + 1) L ∧ vp_in (x3 + 2) L ∧ vp_in (x3 + 3) L ∧ CallI (some (L, xs)) mX8_look [.ref 0, .int (xs (Int32.toNatClampNeg (x3 + 1))), .int (xs (Int32.toNatClampNeg (x3 + 2))), .int (xs (Int32.toNatClampNeg (x3 + 3)))] m (fun v78 m77 => vp_in (x3 + 1) L ∧ vp_in (x3 + 2) L ∧ vp_in (x3 + 3) L ∧ CallI (some (L, xs)) mX9_look [.ref 77, .int (xs (Int32.toNatClampNeg (x3 + 1))), .int (xs (Int32.toNatClampNeg (x3 + 2))), .int (xs (Int32.toNatClampNeg (x3 + 3)))] m77 (fun v80 m79 => (v78 = v80 → Wp (some (L, xs)) mL_law 18 [some (.ref 2000), some (.ref 0), some (.ref 77), some (.int (x3 + 5))] [] m79 Q) ∧ (¬ v78 = v80 → Q (some (.int 0)) m79)))) ∧ (((xs (Int32.toNatClampNeg x3)) &&& 31) = 20 → CallI (some (L, xs)) mX8_burn [.ref 0] m (fun v82 m81 => CallI (some (L, xs)) mX9_burn [.ref 77] m81 (fun v84 m83 => (v82 = v84 → Wp (some (L, xs)) mL_law 18 [some (.ref 2000), some (.ref 0), some (.ref 77), some (.int (x3 + 5))] [] m83 Q) ∧ (¬ v82 = v84 → Q (some (.int 0)) m83)))) ∧ (((xs (Int32.toNatClampNeg x3)) &&& 31) = 21 → CallI (some (L, xs)) mX8_orders [.ref 0] m (fun v86 m85 => CallI (some (L, xs)) mX9_orders [.ref 77] m85 (fun v88 m87 => (v86 = v88 → Wp (some (L, xs)) mL_law 18 [some (.ref 2000), some (.ref 0), some (.ref 77), some (.int (x3 + 5))] [] m87 Q) ∧ (¬ v86 = v88 → Q (some (.int 0)) m87)))) ∧ (((xs (Int32.toNatClampNeg x3)) &&& 31) = 22 → vp_in (x3 + 1) L ∧ CallI (some (L, xs)) mX8_order [.ref 0, .int (xs (Int32.toNatClampNeg (x3 + 1)))] m (fun v90 m89 => vp_in (x3 + 1) L ∧ CallI (some (L, xs)) mX9_order [.ref 77, .int (xs (Int32.toNatClampNeg (x3 + 1)))] m89 (fun v92 m91 => (v90 = v92 → Wp (some (L, xs)) mL_law 18 [some (.ref 2000), some (.ref 0), some (.ref 77), some (.int (x3 + 5))] [] m91 Q) ∧ (¬ v90 = v92 → Q (some (.int 0)) m91)))) ∧ (((xs (Int32.toNatClampNeg x3)) &&& 31) = 23 → vp_in (x3 + 1) L ∧ vp_in (x3 + 2) L ∧ CallI (some (L, xs)) mX8_surely [.ref 0, .int (xs (Int32.toNatClampNeg (x3 + 1))), .int (xs (Int32.toNatClampNeg (x3 + 2)))] m (fun v94 m93 => vp_in (x3 + 1) L ∧ vp_in (x3 + 2) L ∧ CallI (some (L, xs)) mX9_surely [.ref 77, .int (xs (Int32.toNatClampNeg (x3 + 1))), .int (xs (Int32.toNatClampNeg (x3 + 2)))] m93 (fun v96 m95 => (v94 = v96 → Wp (some (L, xs)) mL_law 18 [some (.ref 2000), some (.ref 0), some (.ref 77), some (.int (x3 + 5))] [] m95 Q) ∧ (¬ v94 = v96 → Q (some (.int 0)) m95)))) ∧ (((xs (Int32.toNatClampNeg x3)) &&& 31) = 24 → vp_in (x3 + 1) L ∧ vp_in (x3 + 2) L ∧ CallI (some (L, xs)) mX8_best [.ref 0, .int (xs (Int32.toNatClampNeg (x3 + 1))), .int (xs (Int32.toNatClampNeg (x3 + 2)))] m (fun v98 m97 => vp_in (x3 + 1) L ∧ vp_in (x3 + 2) L ∧ CallI (some (L, xs)) mX9_best [.ref 77, .int (xs (Int32.toNatClampNeg (x3 + 1))), .int (xs (Int32.toNatClampNeg (x3 + 2)))] m97 (fun v100 m99 => (v98 = v100 → Wp (some (L, xs)) mL_law 18 [some (.ref 2000), some (.ref 0), some (.ref 77), some (.int (x3 + 5))] [] m99 Q) ∧ (¬ v98 = v100 → Q (some (.int 0)) m99)))) ∧ (((xs (Int32.toNatClampNeg x3)) &&& 31) = 25 → vp_in (x3 + 1) L ∧ vp_in (x3 + 2) L ∧ vp_in (x3 + 3) L ∧ CallI (some (L, xs)) mX8_two [.ref 0, .int (xs (Int32.toNatClampNeg (x3 + 1))), .int (xs (Int32.toNatClampNeg (x3 + 2))), .int (xs (Int32.toNatClampNeg (x3 + 3)))] m (fun v102 m101 => vp_in (x3 + 1) L ∧ vp_in (x3 + 2) L ∧ vp_in (x3 + 3) L ∧ CallI (some (L, xs)) mX9_two [.ref 77, .int (xs (Int32.toNatClampNeg (x3 + 1))), .int (xs (Int32.toNatClampNeg (x3 + 2))), .int (xs (Int32.toNatClampNeg (x3 + 3)))] m101 (fun v104 m103 => (v102 = v104 → Wp (some (L, xs)) mL_law 18 [some (.ref 2000), some (.ref 0), some (.ref 77), some (.int (x3 + 5))] [] m103 Q) ∧ (¬ v102 = v104 → Q (some (.int 0)) m103)))) ∧ (((xs (Int32.toNatClampNeg x3)) &&& 31) = 26 → vp_in (x3 + 1) L ∧ vp_in (x3 + 2) L ∧ vp_in (x3 + 3) L ∧ vp_in (x3 + 4) L ∧ CallI (some (L, xs)) mX8_rivals [.ref 0, .int (xs (Int32.toNatClampNeg (x3 + 1))), .int (xs (Int32.toNatClampNeg (x3 + 2))), .int (xs (Int32.toNatClampNeg (x3 + 3))), .int (xs (Int32.toNatClampNeg (x3 + 4)))] m (fun v106 m105 => vp_in (x3 + 1) L ∧ vp_in (x3 + 2) L ∧ vp_in (x3 + 3) L ∧ vp_in (x3 + 4) L ∧ CallI (some (L, xs)) mX9_rivals [.ref 77, .int (xs (Int32.toNatClampNeg (x3 + 1))), .int (xs (Int32.toNatClampNeg (x3 + 2))), .int (xs (Int32.toNatClampNeg (x3 + 3))), .int (xs (Int32.toNatClampNeg (x3 + 4)))] m105 (fun v108 m107 => (v106 = v108 → Wp (some (L, xs)) mL_law 18 [some (.ref 2000), some (.ref 0), some (.ref 77), some (.int (x3 + 5))] [] m107 Q) ∧ (¬ v106 = v108 → Q (some (.int 0)) m107)))) ∧ (((xs (Int32.toNatClampNeg x3)) &&& 31) = 27 → vp_in (x3 + 1) L ∧ CallI (some (L, xs)) mX8_seed [.ref 0, .int (xs (Int32.toNatClampNeg (x3 + 1)))] m (fun v110 m109 => vp_in (x3 + 1) L ∧ CallI (some (L, xs)) mX9_seed [.ref 77, .int (xs (Int32.toNatClampNeg (x3 + 1)))] m109 (fun v112 m111 => (v110 = v112 → Wp (some (L, xs)) mL_law 18 [some (.ref 2000), some (.ref 0), some (.ref 77), some (.int (x3 + 5))] [] m111 Q) ∧ (¬ v110 = v112 → Q (some (.int 0)) m111)))) ∧ (((xs (Int32.toNatClampNeg x3)) &&& 31) = 28 → vp_in (x3 + 1) L ∧ CallI (some (L, xs)) mX8_keep [.ref 0, .int (xs (Int32.toNatClampNeg (x3 + 1)))] m (fun v114 m113 => vp_in (x3 + 1) L ∧ CallI (some (L, xs)) mX9_keep [.ref 77, .int (xs (Int32.toNatClampNeg (x3 + 1)))] m113 (fun v116 m115 => (v114 = v116 → Wp (some (L, xs)) mL_law 18 [some (.ref 2000), some (.ref 0), some (.ref 77), some (.int (x3 + 5))] [] m115 Q) ∧ (¬ v114 = v116 → Q (some (.int 0)) m115)))) ∧ (((xs (Int32.toNatClampNeg x3)) &&& 31) = 29 → vp_in (x3 + 1) L ∧ CallI (some (L, xs)) mX8_goBack [.ref 0, .int (xs (Int32.toNatClampNeg (x3 + 1)))] m (fun v118 m117 => vp_in (x3 + 1) L ∧ CallI (some (L, xs)) mX9_goBack [.ref 77, .int (xs (Int32.toNatClampNeg (x3 + 1)))] m117 (fun v120 m119 => (v118 = v120 → Wp (some (L, xs)) mL_law 18 [some (.ref 2000), some (.ref 0), some (.ref 77), some (.int (x3 + 5))] [] m119 Q) ∧ (¬ v118 = v120 → Q (some (.int 0)) m119)))) ∧ (Int32.toInt ((xs (Int32.toNatClampNeg x3)) &&& 31) < 0 ∨ 29 < Int32.toInt ((xs (Int32.toNatClampNeg x3)) &&& 31) → Wp (some (L, xs)) mL_law 18 [some (.ref 2000), some (.ref 0), some (.ref 77), some (.int (x3 + 5))] [] m Q))) : Wp (some (L, xs)) mL_law 18 [some (.ref 2000), some (.ref 0), some (.ref 77), some (.int x3)] [] m Q := by
  refine Wp.pk 2 (pc' := 20) (lv' := [some (.ref 2000), some (.ref 0), some (.ref 77), some (.int x3)]) (st' := [.ref 2000, .int x3]) rfl ?_
  refine Wp.slenX rfl ?_
  refine Wp.pk 2 (pc' := 23) (lv' := [some (.ref 2000), some (.ref 0), some (.ref 77), some (.int x3)]) (st' := [.int ((Int32.ofNat L) - 5), .int x3]) rfl ?_
  refine Wp.icmp_gt rfl rfl ⟨fun hc => ?_, fun hc => ?_⟩
  · replace h := h.1 hc
    refine Wp.pk 1 (pc' := 1055) (lv' := [some (.ref 2000), some (.ref 0), some (.ref 77), some (.int x3)]) (st' := [.int 1]) rfl ?_
    exact Wp.iret rfl rfl ⟨rfl, h⟩
  · replace h := h.2 hc
    refine Wp.pk 2 (pc' := 28) (lv' := [some (.ref 2000), some (.ref 0), some (.ref 77), some (.int x3)]) (st' := [.int x3, .ref 2000]) rfl ?_
    refine Wp.sald rfl ⟨h.1, ?_⟩
    replace h := h.2
    refine Wp.pk 2 (pc' := 32) (lv' := [some (.ref 2000), some (.ref 0), some (.ref 77), some (.int x3)]) (st' := [.int ((xs (Int32.toNatClampNeg x3)) &&& 31)]) rfl ?_
    refine Wp.tsw (lo := 0) (hi := 29) rfl (fun hc => ?_) (fun j hj1 hj2 hc => ?_)
    · replace h := h.2.2.2.2.2.2.2.2.2.2.2.2.2.2.2.2.2.2.2.2.2.2.2.2.2.2.2.2.2.2 hc
      refine ⟨1048, rfl, ?_⟩
      refine Wp.pk 2 (pc' := 18) (lv' := [some (.ref 2000), some (.ref 0), some (.ref 77), some (.int (x3 + 5))]) (st' := []) rfl ?_
      exact h
    · rcases (show j = 0 ∨ j = 1 ∨ j = 2 ∨ j = 3 ∨ j = 4 ∨ j = 5 ∨ j = 6 ∨ j = 7 ∨ j = 8 ∨ j = 9 ∨ j = 10 ∨ j = 11 ∨ j = 12 ∨ j = 13 ∨ j = 14 ∨ j = 15 ∨ j = 16 ∨ j = 17 ∨ j = 18 ∨ j = 19 ∨ j = 20 ∨ j = 21 ∨ j = 22 ∨ j = 23 ∨ j = 24 ∨ j = 25 ∨ j = 26 ∨ j = 27 ∨ j = 28 ∨ j = 29 by omega) with rfl | rfl | rfl | rfl | rfl | rfl | rfl | rfl | rfl | rfl | rfl | rfl | rfl | rfl | rfl | rfl | rfl | rfl | rfl | rfl | rfl | rfl | rfl | rfl | rfl | rfl | rfl | rfl | rfl | rfl
      · replace h := (h.1 (Int32.toInt_inj.mp (hc.trans (by decide))))
        refine ⟨_, 168, rfl, rfl, ?_⟩
        refine Wp.pk 5 (pc' := 173) (lv' := [some (.ref 2000), some (.ref 0), some (.ref 77), some (.int x3)]) (st' := [.int (x3 + 1), .ref 2000, .ref 0]) rfl ?_
        refine Wp.sald rfl ⟨h.1, ?_⟩
        replace h := h.2
        refine Wp.pk 4 (pc' := 178) (lv' := [some (.ref 2000), some (.ref 0), some (.ref 77), some (.int x3)]) (st' := [.int (x3 + 2), .ref 2000, .int (xs (Int32.toNatClampNeg (x3 + 1))), .ref 0]) rfl ?_
        refine Wp.sald rfl ⟨h.1, ?_⟩
        replace h := h.2
        refine Wp.pk 7 (pc' := 187) (lv' := [some (.ref 2000), some (.ref 0), some (.ref 77), some (.int x3)]) (st' := [.int (x3 + 3), .ref 2000, .long ((Int32.toInt64 (xs (Int32.toNatClampNeg (x3 + 2)))) <<< (Int32.toInt64 32 &&& 63)), .int (xs (Int32.toNatClampNeg (x3 + 1))), .ref 0]) rfl ?_
        refine Wp.sald rfl ⟨h.1, ?_⟩
        replace h := h.2
        refine Wp.pk 1 (pc' := 189) (lv' := [some (.ref 2000), some (.ref 0), some (.ref 77), some (.int x3)]) (st' := [.long (Int32.toInt64 (xs (Int32.toNatClampNeg (x3 + 3)))), .long ((Int32.toInt64 (xs (Int32.toNatClampNeg (x3 + 2)))) <<< (Int32.toInt64 32 &&& 63)), .int (xs (Int32.toNatClampNeg (x3 + 1))), .ref 0]) rfl ?_
        refine Wp.ldc2 rfl rfl ?_
        refine Wp.pk 2 (pc' := 194) (lv' := [some (.ref 2000), some (.ref 0), some (.ref 77), some (.int x3)]) (st' := [.long (((Int32.toInt64 (xs (Int32.toNatClampNeg (x3 + 2)))) <<< (Int32.toInt64 32 &&& 63)) ||| ((Int32.toInt64 (xs (Int32.toNatClampNeg (x3 + 3)))) &&& 4294967295)), .int (xs (Int32.toNatClampNeg (x3 + 1))), .ref 0]) rfl ?_
        refine Wp.callI rfl rfl rfl (CallI.mono h (fun v2 m1 h => ?_))
        refine Wp.pk 5 (pc' := 202) (lv' := [some (.ref 2000), some (.ref 0), some (.ref 77), some (.int x3)]) (st' := [.int (x3 + 1), .ref 2000, .ref 77, .int v2]) rfl ?_
        refine Wp.sald rfl ⟨h.1, ?_⟩
        replace h := h.2
        refine Wp.pk 4 (pc' := 207) (lv' := [some (.ref 2000), some (.ref 0), some (.ref 77), some (.int x3)]) (st' := [.int (x3 + 2), .ref 2000, .int (xs (Int32.toNatClampNeg (x3 + 1))), .ref 77, .int v2]) rfl ?_
        refine Wp.sald rfl ⟨h.1, ?_⟩
        replace h := h.2
        refine Wp.pk 7 (pc' := 216) (lv' := [some (.ref 2000), some (.ref 0), some (.ref 77), some (.int x3)]) (st' := [.int (x3 + 3), .ref 2000, .long ((Int32.toInt64 (xs (Int32.toNatClampNeg (x3 + 2)))) <<< (Int32.toInt64 32 &&& 63)), .int (xs (Int32.toNatClampNeg (x3 + 1))), .ref 77, .int v2]) rfl ?_
        refine Wp.sald rfl ⟨h.1, ?_⟩
        replace h := h.2
        refine Wp.pk 1 (pc' := 218) (lv' := [some (.ref 2000), some (.ref 0), some (.ref 77), some (.int x3)]) (st' := [.long (Int32.toInt64 (xs (Int32.toNatClampNeg (x3 + 3)))), .long ((Int32.toInt64 (xs (Int32.toNatClampNeg (x3 + 2)))) <<< (Int32.toInt64 32 &&& 63)), .int (xs (Int32.toNatClampNeg (x3 + 1))), .ref 77, .int v2]) rfl ?_
        refine Wp.ldc2 rfl rfl ?_
        refine Wp.pk 2 (pc' := 223) (lv' := [some (.ref 2000), some (.ref 0), some (.ref 77), some (.int x3)]) (st' := [.long (((Int32.toInt64 (xs (Int32.toNatClampNeg (x3 + 2)))) <<< (Int32.toInt64 32 &&& 63)) ||| ((Int32.toInt64 (xs (Int32.toNatClampNeg (x3 + 3)))) &&& 4294967295)), .int (xs (Int32.toNatClampNeg (x3 + 1))), .ref 77, .int v2]) rfl ?_
        refine Wp.callI rfl rfl rfl (CallI.mono h (fun v4 m3 h => ?_))
        refine Wp.icmp_eq rfl rfl ⟨fun hc => ?_, fun hc => ?_⟩
        · replace h := h.1 hc
          refine Wp.pk 2 (pc' := 18) (lv' := [some (.ref 2000), some (.ref 0), some (.ref 77), some (.int (x3 + 5))]) (st' := []) rfl ?_
          exact h
        · replace h := h.2 hc
          refine Wp.pk 1 (pc' := 230) (lv' := [some (.ref 2000), some (.ref 0), some (.ref 77), some (.int x3)]) (st' := [.int 0]) rfl ?_
          exact Wp.iret rfl rfl ⟨rfl, h⟩
      · replace h := (h.2.1 (Int32.toInt_inj.mp (hc.trans (by decide))))
        refine ⟨_, 231, rfl, rfl, ?_⟩
        refine Wp.pk 1 (pc' := 232) (lv' := [some (.ref 2000), some (.ref 0), some (.ref 77), some (.int x3)]) (st' := [.ref 0]) rfl ?_
        refine Wp.callI rfl rfl rfl (CallI.mono h (fun v6 m5 h => ?_))
        refine Wp.pk 1 (pc' := 236) (lv' := [some (.ref 2000), some (.ref 0), some (.ref 77), some (.int x3)]) (st' := [.ref 77, .int v6]) rfl ?_
        refine Wp.callI rfl rfl rfl (CallI.mono h (fun v8 m7 h => ?_))
        refine Wp.icmp_eq rfl rfl ⟨fun hc => ?_, fun hc => ?_⟩
        · replace h := h.1 hc
          refine Wp.pk 2 (pc' := 18) (lv' := [some (.ref 2000), some (.ref 0), some (.ref 77), some (.int (x3 + 5))]) (st' := []) rfl ?_
          exact h
        · replace h := h.2 hc
          refine Wp.pk 1 (pc' := 243) (lv' := [some (.ref 2000), some (.ref 0), some (.ref 77), some (.int x3)]) (st' := [.int 0]) rfl ?_
          exact Wp.iret rfl rfl ⟨rfl, h⟩
      · replace h := (h.2.2.1 (Int32.toInt_inj.mp (hc.trans (by decide))))
        refine ⟨_, 244, rfl, rfl, ?_⟩
        refine Wp.pk 1 (pc' := 245) (lv' := [some (.ref 2000), some (.ref 0), some (.ref 77), some (.int x3)]) (st' := [.ref 0]) rfl ?_
        refine Wp.callI rfl rfl rfl (CallI.mono h (fun v10 m9 h => ?_))
        refine Wp.pk 1 (pc' := 249) (lv' := [some (.ref 2000), some (.ref 0), some (.ref 77), some (.int x3)]) (st' := [.ref 77, .int v10]) rfl ?_
        refine Wp.callI rfl rfl rfl (CallI.mono h (fun v12 m11 h => ?_))
        refine Wp.icmp_eq rfl rfl ⟨fun hc => ?_, fun hc => ?_⟩
        · replace h := h.1 hc
          refine Wp.pk 2 (pc' := 18) (lv' := [some (.ref 2000), some (.ref 0), some (.ref 77), some (.int (x3 + 5))]) (st' := []) rfl ?_
          exact h
        · replace h := h.2 hc
          refine Wp.pk 1 (pc' := 256) (lv' := [some (.ref 2000), some (.ref 0), some (.ref 77), some (.int x3)]) (st' := [.int 0]) rfl ?_
          exact Wp.iret rfl rfl ⟨rfl, h⟩
      · replace h := (h.2.2.2.1 (Int32.toInt_inj.mp (hc.trans (by decide))))
        refine ⟨_, 257, rfl, rfl, ?_⟩
        refine Wp.pk 5 (pc' := 262) (lv' := [some (.ref 2000), some (.ref 0), some (.ref 77), some (.int x3)]) (st' := [.int (x3 + 1), .ref 2000, .ref 0]) rfl ?_
        refine Wp.sald rfl ⟨h.1, ?_⟩
        replace h := h.2
        refine Wp.callI rfl rfl rfl (CallI.mono h (fun v14 m13 h => ?_))
        refine Wp.pk 5 (pc' := 271) (lv' := [some (.ref 2000), some (.ref 0), some (.ref 77), some (.int x3)]) (st' := [.int (x3 + 1), .ref 2000, .ref 77, .int v14]) rfl ?_
        refine Wp.sald rfl ⟨h.1, ?_⟩
        replace h := h.2
        refine Wp.callI rfl rfl rfl (CallI.mono h (fun v16 m15 h => ?_))
        refine Wp.icmp_eq rfl rfl ⟨fun hc => ?_, fun hc => ?_⟩
        · replace h := h.1 hc
          refine Wp.pk 2 (pc' := 18) (lv' := [some (.ref 2000), some (.ref 0), some (.ref 77), some (.int (x3 + 5))]) (st' := []) rfl ?_
          exact h
        · replace h := h.2 hc
          refine Wp.pk 1 (pc' := 279) (lv' := [some (.ref 2000), some (.ref 0), some (.ref 77), some (.int x3)]) (st' := [.int 0]) rfl ?_
          exact Wp.iret rfl rfl ⟨rfl, h⟩
      · replace h := (h.2.2.2.2.1 (Int32.toInt_inj.mp (hc.trans (by decide))))
        refine ⟨_, 280, rfl, rfl, ?_⟩
        refine Wp.pk 5 (pc' := 285) (lv' := [some (.ref 2000), some (.ref 0), some (.ref 77), some (.int x3)]) (st' := [.int (x3 + 1), .ref 2000, .ref 0]) rfl ?_
        refine Wp.sald rfl ⟨h.1, ?_⟩
        replace h := h.2
        refine Wp.pk 4 (pc' := 290) (lv' := [some (.ref 2000), some (.ref 0), some (.ref 77), some (.int x3)]) (st' := [.int (x3 + 2), .ref 2000, .int (xs (Int32.toNatClampNeg (x3 + 1))), .ref 0]) rfl ?_
        refine Wp.sald rfl ⟨h.1, ?_⟩
        replace h := h.2
        refine Wp.callI rfl rfl rfl (CallI.mono h (fun v18 m17 h => ?_))
        refine Wp.pk 5 (pc' := 299) (lv' := [some (.ref 2000), some (.ref 0), some (.ref 77), some (.int x3)]) (st' := [.int (x3 + 1), .ref 2000, .ref 77, .int v18]) rfl ?_
        refine Wp.sald rfl ⟨h.1, ?_⟩
        replace h := h.2
        refine Wp.pk 4 (pc' := 304) (lv' := [some (.ref 2000), some (.ref 0), some (.ref 77), some (.int x3)]) (st' := [.int (x3 + 2), .ref 2000, .int (xs (Int32.toNatClampNeg (x3 + 1))), .ref 77, .int v18]) rfl ?_
        refine Wp.sald rfl ⟨h.1, ?_⟩
        replace h := h.2
        refine Wp.callI rfl rfl rfl (CallI.mono h (fun v20 m19 h => ?_))
        refine Wp.icmp_eq rfl rfl ⟨fun hc => ?_, fun hc => ?_⟩
        · replace h := h.1 hc
          refine Wp.pk 2 (pc' := 18) (lv' := [some (.ref 2000), some (.ref 0), some (.ref 77), some (.int (x3 + 5))]) (st' := []) rfl ?_
          exact h
        · replace h := h.2 hc
          refine Wp.pk 1 (pc' := 312) (lv' := [some (.ref 2000), some (.ref 0), some (.ref 77), some (.int x3)]) (st' := [.int 0]) rfl ?_
          exact Wp.iret rfl rfl ⟨rfl, h⟩
      · replace h := (h.2.2.2.2.2.1 (Int32.toInt_inj.mp (hc.trans (by decide))))
        refine ⟨_, 313, rfl, rfl, ?_⟩
        refine Wp.pk 5 (pc' := 318) (lv' := [some (.ref 2000), some (.ref 0), some (.ref 77), some (.int x3)]) (st' := [.int (x3 + 1), .ref 2000, .ref 0]) rfl ?_
        refine Wp.sald rfl ⟨h.1, ?_⟩
        replace h := h.2
        refine Wp.callI rfl rfl rfl (CallI.mono h (fun v22 m21 h => ?_))
        refine Wp.pk 5 (pc' := 327) (lv' := [some (.ref 2000), some (.ref 0), some (.ref 77), some (.int x3)]) (st' := [.int (x3 + 1), .ref 2000, .ref 77, .int v22]) rfl ?_
        refine Wp.sald rfl ⟨h.1, ?_⟩
        replace h := h.2
        refine Wp.callI rfl rfl rfl (CallI.mono h (fun v24 m23 h => ?_))
        refine Wp.icmp_eq rfl rfl ⟨fun hc => ?_, fun hc => ?_⟩
        · replace h := h.1 hc
          refine Wp.pk 2 (pc' := 18) (lv' := [some (.ref 2000), some (.ref 0), some (.ref 77), some (.int (x3 + 5))]) (st' := []) rfl ?_
          exact h
        · replace h := h.2 hc
          refine Wp.pk 1 (pc' := 335) (lv' := [some (.ref 2000), some (.ref 0), some (.ref 77), some (.int x3)]) (st' := [.int 0]) rfl ?_
          exact Wp.iret rfl rfl ⟨rfl, h⟩
      · replace h := (h.2.2.2.2.2.2.1 (Int32.toInt_inj.mp (hc.trans (by decide))))
        refine ⟨_, 336, rfl, rfl, ?_⟩
        refine Wp.pk 5 (pc' := 341) (lv' := [some (.ref 2000), some (.ref 0), some (.ref 77), some (.int x3)]) (st' := [.int (x3 + 1), .ref 2000, .ref 0]) rfl ?_
        refine Wp.sald rfl ⟨h.1, ?_⟩
        replace h := h.2
        refine Wp.pk 4 (pc' := 346) (lv' := [some (.ref 2000), some (.ref 0), some (.ref 77), some (.int x3)]) (st' := [.int (x3 + 2), .ref 2000, .int (xs (Int32.toNatClampNeg (x3 + 1))), .ref 0]) rfl ?_
        refine Wp.sald rfl ⟨h.1, ?_⟩
        replace h := h.2
        refine Wp.callI rfl rfl rfl (CallI.mono h (fun v26 m25 h => ?_))
        refine Wp.pk 5 (pc' := 355) (lv' := [some (.ref 2000), some (.ref 0), some (.ref 77), some (.int x3)]) (st' := [.int (x3 + 1), .ref 2000, .ref 77, .int v26]) rfl ?_
        refine Wp.sald rfl ⟨h.1, ?_⟩
        replace h := h.2
        refine Wp.pk 4 (pc' := 360) (lv' := [some (.ref 2000), some (.ref 0), some (.ref 77), some (.int x3)]) (st' := [.int (x3 + 2), .ref 2000, .int (xs (Int32.toNatClampNeg (x3 + 1))), .ref 77, .int v26]) rfl ?_
        refine Wp.sald rfl ⟨h.1, ?_⟩
        replace h := h.2
        refine Wp.callI rfl rfl rfl (CallI.mono h (fun v28 m27 h => ?_))
        refine Wp.icmp_eq rfl rfl ⟨fun hc => ?_, fun hc => ?_⟩
        · replace h := h.1 hc
          refine Wp.pk 2 (pc' := 18) (lv' := [some (.ref 2000), some (.ref 0), some (.ref 77), some (.int (x3 + 5))]) (st' := []) rfl ?_
          exact h
        · replace h := h.2 hc
          refine Wp.pk 1 (pc' := 368) (lv' := [some (.ref 2000), some (.ref 0), some (.ref 77), some (.int x3)]) (st' := [.int 0]) rfl ?_
          exact Wp.iret rfl rfl ⟨rfl, h⟩
      · replace h := (h.2.2.2.2.2.2.2.1 (Int32.toInt_inj.mp (hc.trans (by decide))))
        refine ⟨_, 369, rfl, rfl, ?_⟩
        refine Wp.pk 5 (pc' := 374) (lv' := [some (.ref 2000), some (.ref 0), some (.ref 77), some (.int x3)]) (st' := [.int (x3 + 1), .ref 2000, .ref 0]) rfl ?_
        refine Wp.sald rfl ⟨h.1, ?_⟩
        replace h := h.2
        refine Wp.pk 4 (pc' := 379) (lv' := [some (.ref 2000), some (.ref 0), some (.ref 77), some (.int x3)]) (st' := [.int (x3 + 2), .ref 2000, .int (xs (Int32.toNatClampNeg (x3 + 1))), .ref 0]) rfl ?_
        refine Wp.sald rfl ⟨h.1, ?_⟩
        replace h := h.2
        refine Wp.pk 4 (pc' := 384) (lv' := [some (.ref 2000), some (.ref 0), some (.ref 77), some (.int x3)]) (st' := [.int (x3 + 3), .ref 2000, .int (xs (Int32.toNatClampNeg (x3 + 2))), .int (xs (Int32.toNatClampNeg (x3 + 1))), .ref 0]) rfl ?_
        refine Wp.sald rfl ⟨h.1, ?_⟩
        replace h := h.2
        refine Wp.callI rfl rfl rfl (CallI.mono h (fun v30 m29 h => ?_))
        refine Wp.pk 5 (pc' := 393) (lv' := [some (.ref 2000), some (.ref 0), some (.ref 77), some (.int x3)]) (st' := [.int (x3 + 1), .ref 2000, .ref 77, .int v30]) rfl ?_
        refine Wp.sald rfl ⟨h.1, ?_⟩
        replace h := h.2
        refine Wp.pk 4 (pc' := 398) (lv' := [some (.ref 2000), some (.ref 0), some (.ref 77), some (.int x3)]) (st' := [.int (x3 + 2), .ref 2000, .int (xs (Int32.toNatClampNeg (x3 + 1))), .ref 77, .int v30]) rfl ?_
        refine Wp.sald rfl ⟨h.1, ?_⟩
        replace h := h.2
        refine Wp.pk 4 (pc' := 403) (lv' := [some (.ref 2000), some (.ref 0), some (.ref 77), some (.int x3)]) (st' := [.int (x3 + 3), .ref 2000, .int (xs (Int32.toNatClampNeg (x3 + 2))), .int (xs (Int32.toNatClampNeg (x3 + 1))), .ref 77, .int v30]) rfl ?_
        refine Wp.sald rfl ⟨h.1, ?_⟩
        replace h := h.2
        refine Wp.callI rfl rfl rfl (CallI.mono h (fun v32 m31 h => ?_))
        refine Wp.icmp_eq rfl rfl ⟨fun hc => ?_, fun hc => ?_⟩
        · replace h := h.1 hc
          refine Wp.pk 2 (pc' := 18) (lv' := [some (.ref 2000), some (.ref 0), some (.ref 77), some (.int (x3 + 5))]) (st' := []) rfl ?_
          exact h
        · replace h := h.2 hc
          refine Wp.pk 1 (pc' := 411) (lv' := [some (.ref 2000), some (.ref 0), some (.ref 77), some (.int x3)]) (st' := [.int 0]) rfl ?_
          exact Wp.iret rfl rfl ⟨rfl, h⟩
      · replace h := (h.2.2.2.2.2.2.2.2.1 (Int32.toInt_inj.mp (hc.trans (by decide))))
        refine ⟨_, 412, rfl, rfl, ?_⟩
        refine Wp.pk 5 (pc' := 417) (lv' := [some (.ref 2000), some (.ref 0), some (.ref 77), some (.int x3)]) (st' := [.int (x3 + 1), .ref 2000, .ref 0]) rfl ?_
        refine Wp.sald rfl ⟨h.1, ?_⟩
        replace h := h.2
        refine Wp.callI rfl rfl rfl (CallI.mono h (fun v34 m33 h => ?_))
        refine Wp.pk 5 (pc' := 426) (lv' := [some (.ref 2000), some (.ref 0), some (.ref 77), some (.int x3)]) (st' := [.int (x3 + 1), .ref 2000, .ref 77, .int v34]) rfl ?_
        refine Wp.sald rfl ⟨h.1, ?_⟩
        replace h := h.2
        refine Wp.callI rfl rfl rfl (CallI.mono h (fun v36 m35 h => ?_))
        refine Wp.icmp_eq rfl rfl ⟨fun hc => ?_, fun hc => ?_⟩
        · replace h := h.1 hc
          refine Wp.pk 2 (pc' := 18) (lv' := [some (.ref 2000), some (.ref 0), some (.ref 77), some (.int (x3 + 5))]) (st' := []) rfl ?_
          exact h
        · replace h := h.2 hc
          refine Wp.pk 1 (pc' := 434) (lv' := [some (.ref 2000), some (.ref 0), some (.ref 77), some (.int x3)]) (st' := [.int 0]) rfl ?_
          exact Wp.iret rfl rfl ⟨rfl, h⟩
      · replace h := (h.2.2.2.2.2.2.2.2.2.1 (Int32.toInt_inj.mp (hc.trans (by decide))))
        refine ⟨_, 435, rfl, rfl, ?_⟩
        refine Wp.pk 5 (pc' := 440) (lv' := [some (.ref 2000), some (.ref 0), some (.ref 77), some (.int x3)]) (st' := [.int (x3 + 1), .ref 2000, .ref 0]) rfl ?_
        refine Wp.sald rfl ⟨h.1, ?_⟩
        replace h := h.2
        refine Wp.pk 4 (pc' := 445) (lv' := [some (.ref 2000), some (.ref 0), some (.ref 77), some (.int x3)]) (st' := [.int (x3 + 2), .ref 2000, .int (xs (Int32.toNatClampNeg (x3 + 1))), .ref 0]) rfl ?_
        refine Wp.sald rfl ⟨h.1, ?_⟩
        replace h := h.2
        refine Wp.callI rfl rfl rfl (CallI.mono h (fun v38 m37 h => ?_))
        refine Wp.pk 5 (pc' := 454) (lv' := [some (.ref 2000), some (.ref 0), some (.ref 77), some (.int x3)]) (st' := [.int (x3 + 1), .ref 2000, .ref 77, .int v38]) rfl ?_
        refine Wp.sald rfl ⟨h.1, ?_⟩
        replace h := h.2
        refine Wp.pk 4 (pc' := 459) (lv' := [some (.ref 2000), some (.ref 0), some (.ref 77), some (.int x3)]) (st' := [.int (x3 + 2), .ref 2000, .int (xs (Int32.toNatClampNeg (x3 + 1))), .ref 77, .int v38]) rfl ?_
        refine Wp.sald rfl ⟨h.1, ?_⟩
        replace h := h.2
        refine Wp.callI rfl rfl rfl (CallI.mono h (fun v40 m39 h => ?_))
        refine Wp.icmp_eq rfl rfl ⟨fun hc => ?_, fun hc => ?_⟩
        · replace h := h.1 hc
          refine Wp.pk 2 (pc' := 18) (lv' := [some (.ref 2000), some (.ref 0), some (.ref 77), some (.int (x3 + 5))]) (st' := []) rfl ?_
          exact h
        · replace h := h.2 hc
          refine Wp.pk 1 (pc' := 467) (lv' := [some (.ref 2000), some (.ref 0), some (.ref 77), some (.int x3)]) (st' := [.int 0]) rfl ?_
          exact Wp.iret rfl rfl ⟨rfl, h⟩
      · replace h := (h.2.2.2.2.2.2.2.2.2.2.1 (Int32.toInt_inj.mp (hc.trans (by decide))))
        refine ⟨_, 468, rfl, rfl, ?_⟩
        refine Wp.pk 5 (pc' := 473) (lv' := [some (.ref 2000), some (.ref 0), some (.ref 77), some (.int x3)]) (st' := [.int (x3 + 1), .ref 2000, .ref 0]) rfl ?_
        refine Wp.sald rfl ⟨h.1, ?_⟩
        replace h := h.2
        refine Wp.pk 4 (pc' := 478) (lv' := [some (.ref 2000), some (.ref 0), some (.ref 77), some (.int x3)]) (st' := [.int (x3 + 2), .ref 2000, .int (xs (Int32.toNatClampNeg (x3 + 1))), .ref 0]) rfl ?_
        refine Wp.sald rfl ⟨h.1, ?_⟩
        replace h := h.2
        refine Wp.callI rfl rfl rfl (CallI.mono h (fun v42 m41 h => ?_))
        refine Wp.pk 5 (pc' := 487) (lv' := [some (.ref 2000), some (.ref 0), some (.ref 77), some (.int x3)]) (st' := [.int (x3 + 1), .ref 2000, .ref 77, .int v42]) rfl ?_
        refine Wp.sald rfl ⟨h.1, ?_⟩
        replace h := h.2
        refine Wp.pk 4 (pc' := 492) (lv' := [some (.ref 2000), some (.ref 0), some (.ref 77), some (.int x3)]) (st' := [.int (x3 + 2), .ref 2000, .int (xs (Int32.toNatClampNeg (x3 + 1))), .ref 77, .int v42]) rfl ?_
        refine Wp.sald rfl ⟨h.1, ?_⟩
        replace h := h.2
        refine Wp.callI rfl rfl rfl (CallI.mono h (fun v44 m43 h => ?_))
        refine Wp.icmp_eq rfl rfl ⟨fun hc => ?_, fun hc => ?_⟩
        · replace h := h.1 hc
          refine Wp.pk 2 (pc' := 18) (lv' := [some (.ref 2000), some (.ref 0), some (.ref 77), some (.int (x3 + 5))]) (st' := []) rfl ?_
          exact h
        · replace h := h.2 hc
          refine Wp.pk 1 (pc' := 500) (lv' := [some (.ref 2000), some (.ref 0), some (.ref 77), some (.int x3)]) (st' := [.int 0]) rfl ?_
          exact Wp.iret rfl rfl ⟨rfl, h⟩
      · replace h := (h.2.2.2.2.2.2.2.2.2.2.2.1 (Int32.toInt_inj.mp (hc.trans (by decide))))
        refine ⟨_, 501, rfl, rfl, ?_⟩
        refine Wp.pk 5 (pc' := 506) (lv' := [some (.ref 2000), some (.ref 0), some (.ref 77), some (.int x3)]) (st' := [.int (x3 + 1), .ref 2000, .ref 0]) rfl ?_
        refine Wp.sald rfl ⟨h.1, ?_⟩
        replace h := h.2
        refine Wp.callI rfl rfl rfl (CallI.mono h (fun v46 m45 h => ?_))
        refine Wp.pk 5 (pc' := 515) (lv' := [some (.ref 2000), some (.ref 0), some (.ref 77), some (.int x3)]) (st' := [.int (x3 + 1), .ref 2000, .ref 77, .int v46]) rfl ?_
        refine Wp.sald rfl ⟨h.1, ?_⟩
        replace h := h.2
        refine Wp.callI rfl rfl rfl (CallI.mono h (fun v48 m47 h => ?_))
        refine Wp.icmp_eq rfl rfl ⟨fun hc => ?_, fun hc => ?_⟩
        · replace h := h.1 hc
          refine Wp.pk 2 (pc' := 18) (lv' := [some (.ref 2000), some (.ref 0), some (.ref 77), some (.int (x3 + 5))]) (st' := []) rfl ?_
          exact h
        · replace h := h.2 hc
          refine Wp.pk 1 (pc' := 523) (lv' := [some (.ref 2000), some (.ref 0), some (.ref 77), some (.int x3)]) (st' := [.int 0]) rfl ?_
          exact Wp.iret rfl rfl ⟨rfl, h⟩
      · replace h := (h.2.2.2.2.2.2.2.2.2.2.2.2.1 (Int32.toInt_inj.mp (hc.trans (by decide))))
        refine ⟨_, 524, rfl, rfl, ?_⟩
        refine Wp.pk 5 (pc' := 529) (lv' := [some (.ref 2000), some (.ref 0), some (.ref 77), some (.int x3)]) (st' := [.int (x3 + 1), .ref 2000, .ref 0]) rfl ?_
        refine Wp.sald rfl ⟨h.1, ?_⟩
        replace h := h.2
        refine Wp.callI rfl rfl rfl (CallI.mono h (fun v50 m49 h => ?_))
        refine Wp.pk 5 (pc' := 538) (lv' := [some (.ref 2000), some (.ref 0), some (.ref 77), some (.int x3)]) (st' := [.int (x3 + 1), .ref 2000, .ref 77, .int v50]) rfl ?_
        refine Wp.sald rfl ⟨h.1, ?_⟩
        replace h := h.2
        refine Wp.callI rfl rfl rfl (CallI.mono h (fun v52 m51 h => ?_))
        refine Wp.icmp_eq rfl rfl ⟨fun hc => ?_, fun hc => ?_⟩
        · replace h := h.1 hc
          refine Wp.pk 2 (pc' := 18) (lv' := [some (.ref 2000), some (.ref 0), some (.ref 77), some (.int (x3 + 5))]) (st' := []) rfl ?_
          exact h
        · replace h := h.2 hc
          refine Wp.pk 1 (pc' := 546) (lv' := [some (.ref 2000), some (.ref 0), some (.ref 77), some (.int x3)]) (st' := [.int 0]) rfl ?_
          exact Wp.iret rfl rfl ⟨rfl, h⟩
      · replace h := (h.2.2.2.2.2.2.2.2.2.2.2.2.2.1 (Int32.toInt_inj.mp (hc.trans (by decide))))
        refine ⟨_, 547, rfl, rfl, ?_⟩
        refine Wp.pk 5 (pc' := 552) (lv' := [some (.ref 2000), some (.ref 0), some (.ref 77), some (.int x3)]) (st' := [.int (x3 + 1), .ref 2000, .ref 0]) rfl ?_
        refine Wp.sald rfl ⟨h.1, ?_⟩
        replace h := h.2
        refine Wp.callI rfl rfl rfl (CallI.mono h (fun v54 m53 h => ?_))
        refine Wp.pk 5 (pc' := 561) (lv' := [some (.ref 2000), some (.ref 0), some (.ref 77), some (.int x3)]) (st' := [.int (x3 + 1), .ref 2000, .ref 77, .int v54]) rfl ?_
        refine Wp.sald rfl ⟨h.1, ?_⟩
        replace h := h.2
        refine Wp.callI rfl rfl rfl (CallI.mono h (fun v56 m55 h => ?_))
        refine Wp.icmp_eq rfl rfl ⟨fun hc => ?_, fun hc => ?_⟩
        · replace h := h.1 hc
          refine Wp.pk 2 (pc' := 18) (lv' := [some (.ref 2000), some (.ref 0), some (.ref 77), some (.int (x3 + 5))]) (st' := []) rfl ?_
          exact h
        · replace h := h.2 hc
          refine Wp.pk 1 (pc' := 569) (lv' := [some (.ref 2000), some (.ref 0), some (.ref 77), some (.int x3)]) (st' := [.int 0]) rfl ?_
          exact Wp.iret rfl rfl ⟨rfl, h⟩
      · replace h := (h.2.2.2.2.2.2.2.2.2.2.2.2.2.2.1 (Int32.toInt_inj.mp (hc.trans (by decide))))
        refine ⟨_, 570, rfl, rfl, ?_⟩
        refine Wp.pk 5 (pc' := 575) (lv' := [some (.ref 2000), some (.ref 0), some (.ref 77), some (.int x3)]) (st' := [.int (x3 + 1), .ref 2000, .ref 0]) rfl ?_
        refine Wp.sald rfl ⟨h.1, ?_⟩
        replace h := h.2
        refine Wp.callI rfl rfl rfl (CallI.mono h (fun v58 m57 h => ?_))
        refine Wp.pk 5 (pc' := 584) (lv' := [some (.ref 2000), some (.ref 0), some (.ref 77), some (.int x3)]) (st' := [.int (x3 + 1), .ref 2000, .ref 77, .int v58]) rfl ?_
        refine Wp.sald rfl ⟨h.1, ?_⟩
        replace h := h.2
        refine Wp.callI rfl rfl rfl (CallI.mono h (fun v60 m59 h => ?_))
        refine Wp.icmp_eq rfl rfl ⟨fun hc => ?_, fun hc => ?_⟩
        · replace h := h.1 hc
          refine Wp.pk 2 (pc' := 18) (lv' := [some (.ref 2000), some (.ref 0), some (.ref 77), some (.int (x3 + 5))]) (st' := []) rfl ?_
          exact h
        · replace h := h.2 hc
          refine Wp.pk 1 (pc' := 592) (lv' := [some (.ref 2000), some (.ref 0), some (.ref 77), some (.int x3)]) (st' := [.int 0]) rfl ?_
          exact Wp.iret rfl rfl ⟨rfl, h⟩
      · replace h := (h.2.2.2.2.2.2.2.2.2.2.2.2.2.2.2.1 (Int32.toInt_inj.mp (hc.trans (by decide))))
        refine ⟨_, 593, rfl, rfl, ?_⟩
        refine Wp.pk 5 (pc' := 598) (lv' := [some (.ref 2000), some (.ref 0), some (.ref 77), some (.int x3)]) (st' := [.int (x3 + 1), .ref 2000, .ref 0]) rfl ?_
        refine Wp.sald rfl ⟨h.1, ?_⟩
        replace h := h.2
        refine Wp.pk 4 (pc' := 603) (lv' := [some (.ref 2000), some (.ref 0), some (.ref 77), some (.int x3)]) (st' := [.int (x3 + 2), .ref 2000, .int (xs (Int32.toNatClampNeg (x3 + 1))), .ref 0]) rfl ?_
        refine Wp.sald rfl ⟨h.1, ?_⟩
        replace h := h.2
        refine Wp.callI rfl rfl rfl (CallI.mono h (fun v62 m61 h => ?_))
        refine Wp.pk 5 (pc' := 612) (lv' := [some (.ref 2000), some (.ref 0), some (.ref 77), some (.int x3)]) (st' := [.int (x3 + 1), .ref 2000, .ref 77, .int v62]) rfl ?_
        refine Wp.sald rfl ⟨h.1, ?_⟩
        replace h := h.2
        refine Wp.pk 4 (pc' := 617) (lv' := [some (.ref 2000), some (.ref 0), some (.ref 77), some (.int x3)]) (st' := [.int (x3 + 2), .ref 2000, .int (xs (Int32.toNatClampNeg (x3 + 1))), .ref 77, .int v62]) rfl ?_
        refine Wp.sald rfl ⟨h.1, ?_⟩
        replace h := h.2
        refine Wp.callI rfl rfl rfl (CallI.mono h (fun v64 m63 h => ?_))
        refine Wp.icmp_eq rfl rfl ⟨fun hc => ?_, fun hc => ?_⟩
        · replace h := h.1 hc
          refine Wp.pk 2 (pc' := 18) (lv' := [some (.ref 2000), some (.ref 0), some (.ref 77), some (.int (x3 + 5))]) (st' := []) rfl ?_
          exact h
        · replace h := h.2 hc
          refine Wp.pk 1 (pc' := 625) (lv' := [some (.ref 2000), some (.ref 0), some (.ref 77), some (.int x3)]) (st' := [.int 0]) rfl ?_
          exact Wp.iret rfl rfl ⟨rfl, h⟩
      · replace h := (h.2.2.2.2.2.2.2.2.2.2.2.2.2.2.2.2.1 (Int32.toInt_inj.mp (hc.trans (by decide))))
        refine ⟨_, 626, rfl, rfl, ?_⟩
        refine Wp.pk 5 (pc' := 631) (lv' := [some (.ref 2000), some (.ref 0), some (.ref 77), some (.int x3)]) (st' := [.int (x3 + 1), .ref 2000, .ref 0]) rfl ?_
        refine Wp.sald rfl ⟨h.1, ?_⟩
        replace h := h.2
        refine Wp.callI rfl rfl rfl (CallI.mono h (fun v66 m65 h => ?_))
        refine Wp.pk 5 (pc' := 640) (lv' := [some (.ref 2000), some (.ref 0), some (.ref 77), some (.int x3)]) (st' := [.int (x3 + 1), .ref 2000, .ref 77, .int v66]) rfl ?_
        refine Wp.sald rfl ⟨h.1, ?_⟩
        replace h := h.2
        refine Wp.callI rfl rfl rfl (CallI.mono h (fun v68 m67 h => ?_))
        refine Wp.icmp_eq rfl rfl ⟨fun hc => ?_, fun hc => ?_⟩
        · replace h := h.1 hc
          refine Wp.pk 2 (pc' := 18) (lv' := [some (.ref 2000), some (.ref 0), some (.ref 77), some (.int (x3 + 5))]) (st' := []) rfl ?_
          exact h
        · replace h := h.2 hc
          refine Wp.pk 1 (pc' := 648) (lv' := [some (.ref 2000), some (.ref 0), some (.ref 77), some (.int x3)]) (st' := [.int 0]) rfl ?_
          exact Wp.iret rfl rfl ⟨rfl, h⟩
      · replace h := (h.2.2.2.2.2.2.2.2.2.2.2.2.2.2.2.2.2.1 (Int32.toInt_inj.mp (hc.trans (by decide))))
        refine ⟨_, 649, rfl, rfl, ?_⟩
        refine Wp.pk 5 (pc' := 654) (lv' := [some (.ref 2000), some (.ref 0), some (.ref 77), some (.int x3)]) (st' := [.int (x3 + 1), .ref 2000, .ref 0]) rfl ?_
        refine Wp.sald rfl ⟨h.1, ?_⟩
        replace h := h.2
        refine Wp.pk 4 (pc' := 659) (lv' := [some (.ref 2000), some (.ref 0), some (.ref 77), some (.int x3)]) (st' := [.int (x3 + 2), .ref 2000, .int (xs (Int32.toNatClampNeg (x3 + 1))), .ref 0]) rfl ?_
        refine Wp.sald rfl ⟨h.1, ?_⟩
        replace h := h.2
        refine Wp.callI rfl rfl rfl (CallI.mono h (fun v70 m69 h => ?_))
        refine Wp.pk 5 (pc' := 668) (lv' := [some (.ref 2000), some (.ref 0), some (.ref 77), some (.int x3)]) (st' := [.int (x3 + 1), .ref 2000, .ref 77, .int v70]) rfl ?_
        refine Wp.sald rfl ⟨h.1, ?_⟩
        replace h := h.2
        refine Wp.pk 4 (pc' := 673) (lv' := [some (.ref 2000), some (.ref 0), some (.ref 77), some (.int x3)]) (st' := [.int (x3 + 2), .ref 2000, .int (xs (Int32.toNatClampNeg (x3 + 1))), .ref 77, .int v70]) rfl ?_
        refine Wp.sald rfl ⟨h.1, ?_⟩
        replace h := h.2
        refine Wp.callI rfl rfl rfl (CallI.mono h (fun v72 m71 h => ?_))
        refine Wp.icmp_eq rfl rfl ⟨fun hc => ?_, fun hc => ?_⟩
        · replace h := h.1 hc
          refine Wp.pk 2 (pc' := 18) (lv' := [some (.ref 2000), some (.ref 0), some (.ref 77), some (.int (x3 + 5))]) (st' := []) rfl ?_
          exact h
        · replace h := h.2 hc
          refine Wp.pk 1 (pc' := 681) (lv' := [some (.ref 2000), some (.ref 0), some (.ref 77), some (.int x3)]) (st' := [.int 0]) rfl ?_
          exact Wp.iret rfl rfl ⟨rfl, h⟩
      · replace h := (h.2.2.2.2.2.2.2.2.2.2.2.2.2.2.2.2.2.2.1 (Int32.toInt_inj.mp (hc.trans (by decide))))
        refine ⟨_, 682, rfl, rfl, ?_⟩
        refine Wp.pk 5 (pc' := 687) (lv' := [some (.ref 2000), some (.ref 0), some (.ref 77), some (.int x3)]) (st' := [.int (x3 + 1), .ref 2000, .ref 0]) rfl ?_
        refine Wp.sald rfl ⟨h.1, ?_⟩
        replace h := h.2
        refine Wp.pk 4 (pc' := 692) (lv' := [some (.ref 2000), some (.ref 0), some (.ref 77), some (.int x3)]) (st' := [.int (x3 + 2), .ref 2000, .int (xs (Int32.toNatClampNeg (x3 + 1))), .ref 0]) rfl ?_
        refine Wp.sald rfl ⟨h.1, ?_⟩
        replace h := h.2
        refine Wp.pk 4 (pc' := 697) (lv' := [some (.ref 2000), some (.ref 0), some (.ref 77), some (.int x3)]) (st' := [.int (x3 + 3), .ref 2000, .int (xs (Int32.toNatClampNeg (x3 + 2))), .int (xs (Int32.toNatClampNeg (x3 + 1))), .ref 0]) rfl ?_
        refine Wp.sald rfl ⟨h.1, ?_⟩
        replace h := h.2
        refine Wp.callI rfl rfl rfl (CallI.mono h (fun v74 m73 h => ?_))
        refine Wp.pk 5 (pc' := 706) (lv' := [some (.ref 2000), some (.ref 0), some (.ref 77), some (.int x3)]) (st' := [.int (x3 + 1), .ref 2000, .ref 77, .int v74]) rfl ?_
        refine Wp.sald rfl ⟨h.1, ?_⟩
        replace h := h.2
        refine Wp.pk 4 (pc' := 711) (lv' := [some (.ref 2000), some (.ref 0), some (.ref 77), some (.int x3)]) (st' := [.int (x3 + 2), .ref 2000, .int (xs (Int32.toNatClampNeg (x3 + 1))), .ref 77, .int v74]) rfl ?_
        refine Wp.sald rfl ⟨h.1, ?_⟩
        replace h := h.2
        refine Wp.pk 4 (pc' := 716) (lv' := [some (.ref 2000), some (.ref 0), some (.ref 77), some (.int x3)]) (st' := [.int (x3 + 3), .ref 2000, .int (xs (Int32.toNatClampNeg (x3 + 2))), .int (xs (Int32.toNatClampNeg (x3 + 1))), .ref 77, .int v74]) rfl ?_
        refine Wp.sald rfl ⟨h.1, ?_⟩
        replace h := h.2
        refine Wp.callI rfl rfl rfl (CallI.mono h (fun v76 m75 h => ?_))
        refine Wp.icmp_eq rfl rfl ⟨fun hc => ?_, fun hc => ?_⟩
        · replace h := h.1 hc
          refine Wp.pk 2 (pc' := 18) (lv' := [some (.ref 2000), some (.ref 0), some (.ref 77), some (.int (x3 + 5))]) (st' := []) rfl ?_
          exact h
        · replace h := h.2 hc
          refine Wp.pk 1 (pc' := 724) (lv' := [some (.ref 2000), some (.ref 0), some (.ref 77), some (.int x3)]) (st' := [.int 0]) rfl ?_
          exact Wp.iret rfl rfl ⟨rfl, h⟩
      · replace h := (h.2.2.2.2.2.2.2.2.2.2.2.2.2.2.2.2.2.2.2.1 (Int32.toInt_inj.mp (hc.trans (by decide))))
        refine ⟨_, 725, rfl, rfl, ?_⟩
        refine Wp.pk 5 (pc' := 730) (lv' := [some (.ref 2000), some (.ref 0), some (.ref 77), some (.int x3)]) (st' := [.int (x3 + 1), .ref 2000, .ref 0]) rfl ?_
        refine Wp.sald rfl ⟨h.1, ?_⟩
        replace h := h.2
        refine Wp.pk 4 (pc' := 735) (lv' := [some (.ref 2000), some (.ref 0), some (.ref 77), some (.int x3)]) (st' := [.int (x3 + 2), .ref 2000, .int (xs (Int32.toNatClampNeg (x3 + 1))), .ref 0]) rfl ?_
        refine Wp.sald rfl ⟨h.1, ?_⟩
        replace h := h.2
        refine Wp.pk 4 (pc' := 740) (lv' := [some (.ref 2000), some (.ref 0), some (.ref 77), some (.int x3)]) (st' := [.int (x3 + 3), .ref 2000, .int (xs (Int32.toNatClampNeg (x3 + 2))), .int (xs (Int32.toNatClampNeg (x3 + 1))), .ref 0]) rfl ?_
        refine Wp.sald rfl ⟨h.1, ?_⟩
        replace h := h.2
        refine Wp.callI rfl rfl rfl (CallI.mono h (fun v78 m77 h => ?_))
        refine Wp.pk 5 (pc' := 749) (lv' := [some (.ref 2000), some (.ref 0), some (.ref 77), some (.int x3)]) (st' := [.int (x3 + 1), .ref 2000, .ref 77, .int v78]) rfl ?_
        refine Wp.sald rfl ⟨h.1, ?_⟩
        replace h := h.2
        refine Wp.pk 4 (pc' := 754) (lv' := [some (.ref 2000), some (.ref 0), some (.ref 77), some (.int x3)]) (st' := [.int (x3 + 2), .ref 2000, .int (xs (Int32.toNatClampNeg (x3 + 1))), .ref 77, .int v78]) rfl ?_
        refine Wp.sald rfl ⟨h.1, ?_⟩
        replace h := h.2
        refine Wp.pk 4 (pc' := 759) (lv' := [some (.ref 2000), some (.ref 0), some (.ref 77), some (.int x3)]) (st' := [.int (x3 + 3), .ref 2000, .int (xs (Int32.toNatClampNeg (x3 + 2))), .int (xs (Int32.toNatClampNeg (x3 + 1))), .ref 77, .int v78]) rfl ?_
        refine Wp.sald rfl ⟨h.1, ?_⟩
        replace h := h.2
        refine Wp.callI rfl rfl rfl (CallI.mono h (fun v80 m79 h => ?_))
        refine Wp.icmp_eq rfl rfl ⟨fun hc => ?_, fun hc => ?_⟩
        · replace h := h.1 hc
          refine Wp.pk 2 (pc' := 18) (lv' := [some (.ref 2000), some (.ref 0), some (.ref 77), some (.int (x3 + 5))]) (st' := []) rfl ?_
          exact h
        · replace h := h.2 hc
          refine Wp.pk 1 (pc' := 767) (lv' := [some (.ref 2000), some (.ref 0), some (.ref 77), some (.int x3)]) (st' := [.int 0]) rfl ?_
          exact Wp.iret rfl rfl ⟨rfl, h⟩
      · replace h := (h.2.2.2.2.2.2.2.2.2.2.2.2.2.2.2.2.2.2.2.2.1 (Int32.toInt_inj.mp (hc.trans (by decide))))
        refine ⟨_, 768, rfl, rfl, ?_⟩
        refine Wp.pk 1 (pc' := 769) (lv' := [some (.ref 2000), some (.ref 0), some (.ref 77), some (.int x3)]) (st' := [.ref 0]) rfl ?_
        refine Wp.callI rfl rfl rfl (CallI.mono h (fun v82 m81 h => ?_))
        refine Wp.pk 1 (pc' := 773) (lv' := [some (.ref 2000), some (.ref 0), some (.ref 77), some (.int x3)]) (st' := [.ref 77, .int v82]) rfl ?_
        refine Wp.callI rfl rfl rfl (CallI.mono h (fun v84 m83 h => ?_))
        refine Wp.icmp_eq rfl rfl ⟨fun hc => ?_, fun hc => ?_⟩
        · replace h := h.1 hc
          refine Wp.pk 2 (pc' := 18) (lv' := [some (.ref 2000), some (.ref 0), some (.ref 77), some (.int (x3 + 5))]) (st' := []) rfl ?_
          exact h
        · replace h := h.2 hc
          refine Wp.pk 1 (pc' := 780) (lv' := [some (.ref 2000), some (.ref 0), some (.ref 77), some (.int x3)]) (st' := [.int 0]) rfl ?_
          exact Wp.iret rfl rfl ⟨rfl, h⟩
      · replace h := (h.2.2.2.2.2.2.2.2.2.2.2.2.2.2.2.2.2.2.2.2.2.1 (Int32.toInt_inj.mp (hc.trans (by decide))))
        refine ⟨_, 781, rfl, rfl, ?_⟩
        refine Wp.pk 1 (pc' := 782) (lv' := [some (.ref 2000), some (.ref 0), some (.ref 77), some (.int x3)]) (st' := [.ref 0]) rfl ?_
        refine Wp.callI rfl rfl rfl (CallI.mono h (fun v86 m85 h => ?_))
        refine Wp.pk 1 (pc' := 786) (lv' := [some (.ref 2000), some (.ref 0), some (.ref 77), some (.int x3)]) (st' := [.ref 77, .int v86]) rfl ?_
        refine Wp.callI rfl rfl rfl (CallI.mono h (fun v88 m87 h => ?_))
        refine Wp.icmp_eq rfl rfl ⟨fun hc => ?_, fun hc => ?_⟩
        · replace h := h.1 hc
          refine Wp.pk 2 (pc' := 18) (lv' := [some (.ref 2000), some (.ref 0), some (.ref 77), some (.int (x3 + 5))]) (st' := []) rfl ?_
          exact h
        · replace h := h.2 hc
          refine Wp.pk 1 (pc' := 793) (lv' := [some (.ref 2000), some (.ref 0), some (.ref 77), some (.int x3)]) (st' := [.int 0]) rfl ?_
          exact Wp.iret rfl rfl ⟨rfl, h⟩
      · replace h := (h.2.2.2.2.2.2.2.2.2.2.2.2.2.2.2.2.2.2.2.2.2.2.1 (Int32.toInt_inj.mp (hc.trans (by decide))))
        refine ⟨_, 794, rfl, rfl, ?_⟩
        refine Wp.pk 5 (pc' := 799) (lv' := [some (.ref 2000), some (.ref 0), some (.ref 77), some (.int x3)]) (st' := [.int (x3 + 1), .ref 2000, .ref 0]) rfl ?_
        refine Wp.sald rfl ⟨h.1, ?_⟩
        replace h := h.2
        refine Wp.callI rfl rfl rfl (CallI.mono h (fun v90 m89 h => ?_))
        refine Wp.pk 5 (pc' := 808) (lv' := [some (.ref 2000), some (.ref 0), some (.ref 77), some (.int x3)]) (st' := [.int (x3 + 1), .ref 2000, .ref 77, .int v90]) rfl ?_
        refine Wp.sald rfl ⟨h.1, ?_⟩
        replace h := h.2
        refine Wp.callI rfl rfl rfl (CallI.mono h (fun v92 m91 h => ?_))
        refine Wp.icmp_eq rfl rfl ⟨fun hc => ?_, fun hc => ?_⟩
        · replace h := h.1 hc
          refine Wp.pk 2 (pc' := 18) (lv' := [some (.ref 2000), some (.ref 0), some (.ref 77), some (.int (x3 + 5))]) (st' := []) rfl ?_
          exact h
        · replace h := h.2 hc
          refine Wp.pk 1 (pc' := 816) (lv' := [some (.ref 2000), some (.ref 0), some (.ref 77), some (.int x3)]) (st' := [.int 0]) rfl ?_
          exact Wp.iret rfl rfl ⟨rfl, h⟩
      · replace h := (h.2.2.2.2.2.2.2.2.2.2.2.2.2.2.2.2.2.2.2.2.2.2.2.1 (Int32.toInt_inj.mp (hc.trans (by decide))))
        refine ⟨_, 817, rfl, rfl, ?_⟩
        refine Wp.pk 5 (pc' := 822) (lv' := [some (.ref 2000), some (.ref 0), some (.ref 77), some (.int x3)]) (st' := [.int (x3 + 1), .ref 2000, .ref 0]) rfl ?_
        refine Wp.sald rfl ⟨h.1, ?_⟩
        replace h := h.2
        refine Wp.pk 4 (pc' := 827) (lv' := [some (.ref 2000), some (.ref 0), some (.ref 77), some (.int x3)]) (st' := [.int (x3 + 2), .ref 2000, .int (xs (Int32.toNatClampNeg (x3 + 1))), .ref 0]) rfl ?_
        refine Wp.sald rfl ⟨h.1, ?_⟩
        replace h := h.2
        refine Wp.callI rfl rfl rfl (CallI.mono h (fun v94 m93 h => ?_))
        refine Wp.pk 5 (pc' := 836) (lv' := [some (.ref 2000), some (.ref 0), some (.ref 77), some (.int x3)]) (st' := [.int (x3 + 1), .ref 2000, .ref 77, .int v94]) rfl ?_
        refine Wp.sald rfl ⟨h.1, ?_⟩
        replace h := h.2
        refine Wp.pk 4 (pc' := 841) (lv' := [some (.ref 2000), some (.ref 0), some (.ref 77), some (.int x3)]) (st' := [.int (x3 + 2), .ref 2000, .int (xs (Int32.toNatClampNeg (x3 + 1))), .ref 77, .int v94]) rfl ?_
        refine Wp.sald rfl ⟨h.1, ?_⟩
        replace h := h.2
        refine Wp.callI rfl rfl rfl (CallI.mono h (fun v96 m95 h => ?_))
        refine Wp.icmp_eq rfl rfl ⟨fun hc => ?_, fun hc => ?_⟩
        · replace h := h.1 hc
          refine Wp.pk 2 (pc' := 18) (lv' := [some (.ref 2000), some (.ref 0), some (.ref 77), some (.int (x3 + 5))]) (st' := []) rfl ?_
          exact h
        · replace h := h.2 hc
          refine Wp.pk 1 (pc' := 849) (lv' := [some (.ref 2000), some (.ref 0), some (.ref 77), some (.int x3)]) (st' := [.int 0]) rfl ?_
          exact Wp.iret rfl rfl ⟨rfl, h⟩
      · replace h := (h.2.2.2.2.2.2.2.2.2.2.2.2.2.2.2.2.2.2.2.2.2.2.2.2.1 (Int32.toInt_inj.mp (hc.trans (by decide))))
        refine ⟨_, 850, rfl, rfl, ?_⟩
        refine Wp.pk 5 (pc' := 855) (lv' := [some (.ref 2000), some (.ref 0), some (.ref 77), some (.int x3)]) (st' := [.int (x3 + 1), .ref 2000, .ref 0]) rfl ?_
        refine Wp.sald rfl ⟨h.1, ?_⟩
        replace h := h.2
        refine Wp.pk 4 (pc' := 860) (lv' := [some (.ref 2000), some (.ref 0), some (.ref 77), some (.int x3)]) (st' := [.int (x3 + 2), .ref 2000, .int (xs (Int32.toNatClampNeg (x3 + 1))), .ref 0]) rfl ?_
        refine Wp.sald rfl ⟨h.1, ?_⟩
        replace h := h.2
        refine Wp.callI rfl rfl rfl (CallI.mono h (fun v98 m97 h => ?_))
        refine Wp.pk 5 (pc' := 869) (lv' := [some (.ref 2000), some (.ref 0), some (.ref 77), some (.int x3)]) (st' := [.int (x3 + 1), .ref 2000, .ref 77, .int v98]) rfl ?_
        refine Wp.sald rfl ⟨h.1, ?_⟩
        replace h := h.2
        refine Wp.pk 4 (pc' := 874) (lv' := [some (.ref 2000), some (.ref 0), some (.ref 77), some (.int x3)]) (st' := [.int (x3 + 2), .ref 2000, .int (xs (Int32.toNatClampNeg (x3 + 1))), .ref 77, .int v98]) rfl ?_
        refine Wp.sald rfl ⟨h.1, ?_⟩
        replace h := h.2
        refine Wp.callI rfl rfl rfl (CallI.mono h (fun v100 m99 h => ?_))
        refine Wp.icmp_eq rfl rfl ⟨fun hc => ?_, fun hc => ?_⟩
        · replace h := h.1 hc
          refine Wp.pk 2 (pc' := 18) (lv' := [some (.ref 2000), some (.ref 0), some (.ref 77), some (.int (x3 + 5))]) (st' := []) rfl ?_
          exact h
        · replace h := h.2 hc
          refine Wp.pk 1 (pc' := 882) (lv' := [some (.ref 2000), some (.ref 0), some (.ref 77), some (.int x3)]) (st' := [.int 0]) rfl ?_
          exact Wp.iret rfl rfl ⟨rfl, h⟩
      · replace h := (h.2.2.2.2.2.2.2.2.2.2.2.2.2.2.2.2.2.2.2.2.2.2.2.2.2.1 (Int32.toInt_inj.mp (hc.trans (by decide))))
        refine ⟨_, 883, rfl, rfl, ?_⟩
        refine Wp.pk 5 (pc' := 888) (lv' := [some (.ref 2000), some (.ref 0), some (.ref 77), some (.int x3)]) (st' := [.int (x3 + 1), .ref 2000, .ref 0]) rfl ?_
        refine Wp.sald rfl ⟨h.1, ?_⟩
        replace h := h.2
        refine Wp.pk 4 (pc' := 893) (lv' := [some (.ref 2000), some (.ref 0), some (.ref 77), some (.int x3)]) (st' := [.int (x3 + 2), .ref 2000, .int (xs (Int32.toNatClampNeg (x3 + 1))), .ref 0]) rfl ?_
        refine Wp.sald rfl ⟨h.1, ?_⟩
        replace h := h.2
        refine Wp.pk 4 (pc' := 898) (lv' := [some (.ref 2000), some (.ref 0), some (.ref 77), some (.int x3)]) (st' := [.int (x3 + 3), .ref 2000, .int (xs (Int32.toNatClampNeg (x3 + 2))), .int (xs (Int32.toNatClampNeg (x3 + 1))), .ref 0]) rfl ?_
        refine Wp.sald rfl ⟨h.1, ?_⟩
        replace h := h.2
        refine Wp.callI rfl rfl rfl (CallI.mono h (fun v102 m101 h => ?_))
        refine Wp.pk 5 (pc' := 907) (lv' := [some (.ref 2000), some (.ref 0), some (.ref 77), some (.int x3)]) (st' := [.int (x3 + 1), .ref 2000, .ref 77, .int v102]) rfl ?_
        refine Wp.sald rfl ⟨h.1, ?_⟩
        replace h := h.2
        refine Wp.pk 4 (pc' := 912) (lv' := [some (.ref 2000), some (.ref 0), some (.ref 77), some (.int x3)]) (st' := [.int (x3 + 2), .ref 2000, .int (xs (Int32.toNatClampNeg (x3 + 1))), .ref 77, .int v102]) rfl ?_
        refine Wp.sald rfl ⟨h.1, ?_⟩
        replace h := h.2
        refine Wp.pk 4 (pc' := 917) (lv' := [some (.ref 2000), some (.ref 0), some (.ref 77), some (.int x3)]) (st' := [.int (x3 + 3), .ref 2000, .int (xs (Int32.toNatClampNeg (x3 + 2))), .int (xs (Int32.toNatClampNeg (x3 + 1))), .ref 77, .int v102]) rfl ?_
        refine Wp.sald rfl ⟨h.1, ?_⟩
        replace h := h.2
        refine Wp.callI rfl rfl rfl (CallI.mono h (fun v104 m103 h => ?_))
        refine Wp.icmp_eq rfl rfl ⟨fun hc => ?_, fun hc => ?_⟩
        · replace h := h.1 hc
          refine Wp.pk 2 (pc' := 18) (lv' := [some (.ref 2000), some (.ref 0), some (.ref 77), some (.int (x3 + 5))]) (st' := []) rfl ?_
          exact h
        · replace h := h.2 hc
          refine Wp.pk 1 (pc' := 925) (lv' := [some (.ref 2000), some (.ref 0), some (.ref 77), some (.int x3)]) (st' := [.int 0]) rfl ?_
          exact Wp.iret rfl rfl ⟨rfl, h⟩
      · replace h := (h.2.2.2.2.2.2.2.2.2.2.2.2.2.2.2.2.2.2.2.2.2.2.2.2.2.2.1 (Int32.toInt_inj.mp (hc.trans (by decide))))
        refine ⟨_, 926, rfl, rfl, ?_⟩
        refine Wp.pk 5 (pc' := 931) (lv' := [some (.ref 2000), some (.ref 0), some (.ref 77), some (.int x3)]) (st' := [.int (x3 + 1), .ref 2000, .ref 0]) rfl ?_
        refine Wp.sald rfl ⟨h.1, ?_⟩
        replace h := h.2
        refine Wp.pk 4 (pc' := 936) (lv' := [some (.ref 2000), some (.ref 0), some (.ref 77), some (.int x3)]) (st' := [.int (x3 + 2), .ref 2000, .int (xs (Int32.toNatClampNeg (x3 + 1))), .ref 0]) rfl ?_
        refine Wp.sald rfl ⟨h.1, ?_⟩
        replace h := h.2
        refine Wp.pk 4 (pc' := 941) (lv' := [some (.ref 2000), some (.ref 0), some (.ref 77), some (.int x3)]) (st' := [.int (x3 + 3), .ref 2000, .int (xs (Int32.toNatClampNeg (x3 + 2))), .int (xs (Int32.toNatClampNeg (x3 + 1))), .ref 0]) rfl ?_
        refine Wp.sald rfl ⟨h.1, ?_⟩
        replace h := h.2
        refine Wp.pk 4 (pc' := 946) (lv' := [some (.ref 2000), some (.ref 0), some (.ref 77), some (.int x3)]) (st' := [.int (x3 + 4), .ref 2000, .int (xs (Int32.toNatClampNeg (x3 + 3))), .int (xs (Int32.toNatClampNeg (x3 + 2))), .int (xs (Int32.toNatClampNeg (x3 + 1))), .ref 0]) rfl ?_
        refine Wp.sald rfl ⟨h.1, ?_⟩
        replace h := h.2
        refine Wp.callI rfl rfl rfl (CallI.mono h (fun v106 m105 h => ?_))
        refine Wp.pk 5 (pc' := 955) (lv' := [some (.ref 2000), some (.ref 0), some (.ref 77), some (.int x3)]) (st' := [.int (x3 + 1), .ref 2000, .ref 77, .int v106]) rfl ?_
        refine Wp.sald rfl ⟨h.1, ?_⟩
        replace h := h.2
        refine Wp.pk 4 (pc' := 960) (lv' := [some (.ref 2000), some (.ref 0), some (.ref 77), some (.int x3)]) (st' := [.int (x3 + 2), .ref 2000, .int (xs (Int32.toNatClampNeg (x3 + 1))), .ref 77, .int v106]) rfl ?_
        refine Wp.sald rfl ⟨h.1, ?_⟩
        replace h := h.2
        refine Wp.pk 4 (pc' := 965) (lv' := [some (.ref 2000), some (.ref 0), some (.ref 77), some (.int x3)]) (st' := [.int (x3 + 3), .ref 2000, .int (xs (Int32.toNatClampNeg (x3 + 2))), .int (xs (Int32.toNatClampNeg (x3 + 1))), .ref 77, .int v106]) rfl ?_
        refine Wp.sald rfl ⟨h.1, ?_⟩
        replace h := h.2
        refine Wp.pk 4 (pc' := 970) (lv' := [some (.ref 2000), some (.ref 0), some (.ref 77), some (.int x3)]) (st' := [.int (x3 + 4), .ref 2000, .int (xs (Int32.toNatClampNeg (x3 + 3))), .int (xs (Int32.toNatClampNeg (x3 + 2))), .int (xs (Int32.toNatClampNeg (x3 + 1))), .ref 77, .int v106]) rfl ?_
        refine Wp.sald rfl ⟨h.1, ?_⟩
        replace h := h.2
        refine Wp.callI rfl rfl rfl (CallI.mono h (fun v108 m107 h => ?_))
        refine Wp.icmp_eq rfl rfl ⟨fun hc => ?_, fun hc => ?_⟩
        · replace h := h.1 hc
          refine Wp.pk 2 (pc' := 18) (lv' := [some (.ref 2000), some (.ref 0), some (.ref 77), some (.int (x3 + 5))]) (st' := []) rfl ?_
          exact h
        · replace h := h.2 hc
          refine Wp.pk 1 (pc' := 978) (lv' := [some (.ref 2000), some (.ref 0), some (.ref 77), some (.int x3)]) (st' := [.int 0]) rfl ?_
          exact Wp.iret rfl rfl ⟨rfl, h⟩
      · replace h := (h.2.2.2.2.2.2.2.2.2.2.2.2.2.2.2.2.2.2.2.2.2.2.2.2.2.2.2.1 (Int32.toInt_inj.mp (hc.trans (by decide))))
        refine ⟨_, 979, rfl, rfl, ?_⟩
        refine Wp.pk 5 (pc' := 984) (lv' := [some (.ref 2000), some (.ref 0), some (.ref 77), some (.int x3)]) (st' := [.int (x3 + 1), .ref 2000, .ref 0]) rfl ?_
        refine Wp.sald rfl ⟨h.1, ?_⟩
        replace h := h.2
        refine Wp.callI rfl rfl rfl (CallI.mono h (fun v110 m109 h => ?_))
        refine Wp.pk 5 (pc' := 993) (lv' := [some (.ref 2000), some (.ref 0), some (.ref 77), some (.int x3)]) (st' := [.int (x3 + 1), .ref 2000, .ref 77, .int v110]) rfl ?_
        refine Wp.sald rfl ⟨h.1, ?_⟩
        replace h := h.2
        refine Wp.callI rfl rfl rfl (CallI.mono h (fun v112 m111 h => ?_))
        refine Wp.icmp_eq rfl rfl ⟨fun hc => ?_, fun hc => ?_⟩
        · replace h := h.1 hc
          refine Wp.pk 2 (pc' := 18) (lv' := [some (.ref 2000), some (.ref 0), some (.ref 77), some (.int (x3 + 5))]) (st' := []) rfl ?_
          exact h
        · replace h := h.2 hc
          refine Wp.pk 1 (pc' := 1001) (lv' := [some (.ref 2000), some (.ref 0), some (.ref 77), some (.int x3)]) (st' := [.int 0]) rfl ?_
          exact Wp.iret rfl rfl ⟨rfl, h⟩
      · replace h := (h.2.2.2.2.2.2.2.2.2.2.2.2.2.2.2.2.2.2.2.2.2.2.2.2.2.2.2.2.1 (Int32.toInt_inj.mp (hc.trans (by decide))))
        refine ⟨_, 1002, rfl, rfl, ?_⟩
        refine Wp.pk 5 (pc' := 1007) (lv' := [some (.ref 2000), some (.ref 0), some (.ref 77), some (.int x3)]) (st' := [.int (x3 + 1), .ref 2000, .ref 0]) rfl ?_
        refine Wp.sald rfl ⟨h.1, ?_⟩
        replace h := h.2
        refine Wp.callI rfl rfl rfl (CallI.mono h (fun v114 m113 h => ?_))
        refine Wp.pk 5 (pc' := 1016) (lv' := [some (.ref 2000), some (.ref 0), some (.ref 77), some (.int x3)]) (st' := [.int (x3 + 1), .ref 2000, .ref 77, .int v114]) rfl ?_
        refine Wp.sald rfl ⟨h.1, ?_⟩
        replace h := h.2
        refine Wp.callI rfl rfl rfl (CallI.mono h (fun v116 m115 h => ?_))
        refine Wp.icmp_eq rfl rfl ⟨fun hc => ?_, fun hc => ?_⟩
        · replace h := h.1 hc
          refine Wp.pk 2 (pc' := 18) (lv' := [some (.ref 2000), some (.ref 0), some (.ref 77), some (.int (x3 + 5))]) (st' := []) rfl ?_
          exact h
        · replace h := h.2 hc
          refine Wp.pk 1 (pc' := 1024) (lv' := [some (.ref 2000), some (.ref 0), some (.ref 77), some (.int x3)]) (st' := [.int 0]) rfl ?_
          exact Wp.iret rfl rfl ⟨rfl, h⟩
      · replace h := (h.2.2.2.2.2.2.2.2.2.2.2.2.2.2.2.2.2.2.2.2.2.2.2.2.2.2.2.2.2.1 (Int32.toInt_inj.mp (hc.trans (by decide))))
        refine ⟨_, 1025, rfl, rfl, ?_⟩
        refine Wp.pk 5 (pc' := 1030) (lv' := [some (.ref 2000), some (.ref 0), some (.ref 77), some (.int x3)]) (st' := [.int (x3 + 1), .ref 2000, .ref 0]) rfl ?_
        refine Wp.sald rfl ⟨h.1, ?_⟩
        replace h := h.2
        refine Wp.callI rfl rfl rfl (CallI.mono h (fun v118 m117 h => ?_))
        refine Wp.pk 5 (pc' := 1039) (lv' := [some (.ref 2000), some (.ref 0), some (.ref 77), some (.int x3)]) (st' := [.int (x3 + 1), .ref 2000, .ref 77, .int v118]) rfl ?_
        refine Wp.sald rfl ⟨h.1, ?_⟩
        replace h := h.2
        refine Wp.callI rfl rfl rfl (CallI.mono h (fun v120 m119 h => ?_))
        refine Wp.icmp_eq rfl rfl ⟨fun hc => ?_, fun hc => ?_⟩
        · replace h := h.1 hc
          refine Wp.pk 2 (pc' := 18) (lv' := [some (.ref 2000), some (.ref 0), some (.ref 77), some (.int (x3 + 5))]) (st' := []) rfl ?_
          exact h
        · replace h := h.2 hc
          refine Wp.pk 1 (pc' := 1047) (lv' := [some (.ref 2000), some (.ref 0), some (.ref 77), some (.int x3)]) (st' := [.int 0]) rfl ?_
          exact Wp.iret rfl rfl ⟨rfl, h⟩
