def f_X3_partsOf (N : Nat) (a1 : Int32) (S : St) : Option (Nat × St) := if a1 = 42 then (some (0, S)) else (if a1 = 43 then (some (0, S)) else (if a1 = 44 then (some (0, S)) else (if a1 = 45 then (some (0, S)) else (if a1 = 46 then (some (6, S)) else (if a1 = 47 then (some (6, S)) else (if a1 = 48 then (some (6, S)) else (if a1 = 49 then (some (6, S)) else (if a1 = 50 then (some (6, S)) else (if a1 = 51 then (some (6, S)) else (if a1 = 52 then (some (6, S)) else (if a1 = 53 then (some (6, S)) else (if a1 = 54 then (some (6, S)) else (if a1 = 55 then (some (6, S)) else (if a1 = 56 then (some (6, S)) else (if a1 = 57 then (some (6, S)) else (if a1 = 58 then (some (6, S)) else (if a1 = 59 then (some (6, S)) else (if a1 = 60 then (some (6, S)) else (if a1 = 61 then (some (6, S)) else (if a1 = 62 then (some (6, S)) else (if a1 = 63 then (some (1, S)) else (if a1 = 64 then (some (0, S)) else (if a1 = 65 then (some (6, S)) else (if a1 = 66 then (some (0, S)) else (if a1 = 67 then (some (0, S)) else (if a1 = 68 then (some (6, S)) else (if a1 = 69 then (some (6, S)) else (if a1 = 70 then (some (3, S)) else (if a1 = 71 then (some (6, S)) else (if a1 = 72 then (some (6, S)) else (if a1 = 73 then (some (6, S)) else (if a1 = 74 then (some (6, S)) else (if a1 = 75 then (some (6, S)) else (if a1 = 76 then (some (2, S)) else (if a1 = 77 then (some (6, S)) else (if a1 = 78 then (some (6, S)) else (if a1 = 79 then (some (6, S)) else (if a1 = 80 then (some (4, S)) else (if a1 = 81 then (some (4, S)) else (if a1 = 82 then (some (6, S)) else (if a1 = 83 then (some (3, S)) else (if a1 = 84 then (some (6, S)) else (if a1 = 85 then (some (6, S)) else (if a1 = 86 then (some (6, S)) else (if a1 = 87 then (some (4, S)) else (if a1 = 88 then (some (4, S)) else (if a1 = 89 then (some (5, S)) else (if a1 = 90 then (some (6, S)) else (if a1 = 91 then (some (6, S)) else (if a1 = 92 then (some (6, S)) else (if a1 = 93 then (some (6, S)) else (if a1 = 94 then (some (6, S)) else (if a1 = 95 then (some (6, S)) else (if a1 = 96 then (some (6, S)) else (if a1 = 97 then (some (6, S)) else (if a1 = 98 then (some (6, S)) else (if a1 = 99 then (some (6, S)) else (if a1 = 100 then (some (6, S)) else (if a1 = 101 then (some (6, S)) else (if a1 = 102 then (some (6, S)) else (if a1 = 103 then (some (6, S)) else (if a1 = 104 then (some (6, S)) else (if a1 = 105 then (some (6, S)) else (if a1 = 106 then (some (6, S)) else (if a1 = 107 then (some (6, S)) else (if a1 = 108 then (some (6, S)) else (if a1 = 109 then (some (6, S)) else (if a1 = 110 then (some (6, S)) else (if a1 = 111 then (some (6, S)) else (if a1 = 112 then (some (4, S)) else (if a1 = 113 then (some (4, S)) else (some (6, S)))))))))))))))))))))))))))))))))))))))))))))))))))))))))))))))))))))))))
set_option maxHeartbeats 4000000 in
set_option maxRecDepth 100000 in
theorem c_X3_partsOf {l : Launch} {G : Cx} {M S S' : St} {N : Nat} {a1 : Int32} {r : Nat} (hq : z_inj (gq G)) (hf : f_X3_partsOf N a1 S = some (r, S')) : z_Ct l yX3_partsOf cX3_partsOf 1 (some (.object "java/lang/String")) 0 0 G S M [.int (a1)] (z_QR G S' M (G.2.2.2.1 r)) := by
  refine z_start (by decide +kernel) (Nat.le_of_ble_eq_true rfl) ?_
  intro p e s m below meth c ls E hr hlk hK hP hS hl
  have E : CallFix p m c cX3_partsOf 1 s _ lw_good RX3 := E
  have hx := E.1
  have hb := E.2.1
  have hown := E.2.2.2.1
  have hts := E.2.2.2.2
  have hl : lv_has ls 1 [(0, .int (a1))] := hl
  unfold f_X3_partsOf at hf
  refine lv_iload_n hx hb dX3_partsOf_0 rfl (lv_at hl 0 rfl) ?_
  by_cases hc1 : a1 = 42
  · replace hf := z_ifp hf hc1
    refine lv_tableIn (off := 303) (tgt := 304) hx hb dX3_partsOf_1 (by rw [hc1]; decide) (by rw [hc1]; decide) (by rw [hc1]; decide) (by decide) ?_
    refine va_ldcS hx hb hown (hK.2.2.2 0 (by decide)) dX3_partsOf_304 ?_
    exact x_rets hx hb hr hlk hf hP hS dX3_partsOf_306
  · replace hf := z_ifn hf hc1
    by_cases hc2 : a1 = 43
    · replace hf := z_ifp hf hc2
      refine lv_tableIn (off := 303) (tgt := 304) hx hb dX3_partsOf_1 (by rw [hc2]; decide) (by rw [hc2]; decide) (by rw [hc2]; decide) (by decide) ?_
      refine va_ldcS hx hb hown (hK.2.2.2 0 (by decide)) dX3_partsOf_304 ?_
      exact x_rets hx hb hr hlk hf hP hS dX3_partsOf_306
    · replace hf := z_ifn hf hc2
      by_cases hc3 : a1 = 44
      · replace hf := z_ifp hf hc3
        refine lv_tableIn (off := 303) (tgt := 304) hx hb dX3_partsOf_1 (by rw [hc3]; decide) (by rw [hc3]; decide) (by rw [hc3]; decide) (by decide) ?_
        refine va_ldcS hx hb hown (hK.2.2.2 0 (by decide)) dX3_partsOf_304 ?_
        exact x_rets hx hb hr hlk hf hP hS dX3_partsOf_306
      · replace hf := z_ifn hf hc3
        by_cases hc4 : a1 = 45
        · replace hf := z_ifp hf hc4
          refine lv_tableIn (off := 303) (tgt := 304) hx hb dX3_partsOf_1 (by rw [hc4]; decide) (by rw [hc4]; decide) (by rw [hc4]; decide) (by decide) ?_
          refine va_ldcS hx hb hown (hK.2.2.2 0 (by decide)) dX3_partsOf_304 ?_
          exact x_rets hx hb hr hlk hf hP hS dX3_partsOf_306
        · replace hf := z_ifn hf hc4
          by_cases hc5 : a1 = 46
          · replace hf := z_ifp hf hc5
            refine lv_tableIn (off := 321) (tgt := 322) hx hb dX3_partsOf_1 (by rw [hc5]; decide) (by rw [hc5]; decide) (by rw [hc5]; decide) (by decide) ?_
            refine va_ldcS hx hb hown (hK.2.2.2 6 (by decide)) dX3_partsOf_322 ?_
            exact x_rets hx hb hr hlk hf hP hS dX3_partsOf_324
          · replace hf := z_ifn hf hc5
            by_cases hc6 : a1 = 47
            · replace hf := z_ifp hf hc6
              refine lv_tableIn (off := 321) (tgt := 322) hx hb dX3_partsOf_1 (by rw [hc6]; decide) (by rw [hc6]; decide) (by rw [hc6]; decide) (by decide) ?_
              refine va_ldcS hx hb hown (hK.2.2.2 6 (by decide)) dX3_partsOf_322 ?_
              exact x_rets hx hb hr hlk hf hP hS dX3_partsOf_324
            · replace hf := z_ifn hf hc6
              by_cases hc7 : a1 = 48
              · replace hf := z_ifp hf hc7
                refine lv_tableIn (off := 321) (tgt := 322) hx hb dX3_partsOf_1 (by rw [hc7]; decide) (by rw [hc7]; decide) (by rw [hc7]; decide) (by decide) ?_
                refine va_ldcS hx hb hown (hK.2.2.2 6 (by decide)) dX3_partsOf_322 ?_
                exact x_rets hx hb hr hlk hf hP hS dX3_partsOf_324
              · replace hf := z_ifn hf hc7
                by_cases hc8 : a1 = 49
                · replace hf := z_ifp hf hc8
                  refine lv_tableIn (off := 321) (tgt := 322) hx hb dX3_partsOf_1 (by rw [hc8]; decide) (by rw [hc8]; decide) (by rw [hc8]; decide) (by decide) ?_
                  refine va_ldcS hx hb hown (hK.2.2.2 6 (by decide)) dX3_partsOf_322 ?_
                  exact x_rets hx hb hr hlk hf hP hS dX3_partsOf_324
                · replace hf := z_ifn hf hc8
                  by_cases hc9 : a1 = 50
                  · replace hf := z_ifp hf hc9
                    refine lv_tableIn (off := 321) (tgt := 322) hx hb dX3_partsOf_1 (by rw [hc9]; decide) (by rw [hc9]; decide) (by rw [hc9]; decide) (by decide) ?_
                    refine va_ldcS hx hb hown (hK.2.2.2 6 (by decide)) dX3_partsOf_322 ?_
                    exact x_rets hx hb hr hlk hf hP hS dX3_partsOf_324
                  · replace hf := z_ifn hf hc9
                    by_cases hc10 : a1 = 51
                    · replace hf := z_ifp hf hc10
                      refine lv_tableIn (off := 321) (tgt := 322) hx hb dX3_partsOf_1 (by rw [hc10]; decide) (by rw [hc10]; decide) (by rw [hc10]; decide) (by decide) ?_
                      refine va_ldcS hx hb hown (hK.2.2.2 6 (by decide)) dX3_partsOf_322 ?_
                      exact x_rets hx hb hr hlk hf hP hS dX3_partsOf_324
                    · replace hf := z_ifn hf hc10
                      by_cases hc11 : a1 = 52
                      · replace hf := z_ifp hf hc11
                        refine lv_tableIn (off := 321) (tgt := 322) hx hb dX3_partsOf_1 (by rw [hc11]; decide) (by rw [hc11]; decide) (by rw [hc11]; decide) (by decide) ?_
                        refine va_ldcS hx hb hown (hK.2.2.2 6 (by decide)) dX3_partsOf_322 ?_
                        exact x_rets hx hb hr hlk hf hP hS dX3_partsOf_324
                      · replace hf := z_ifn hf hc11
                        by_cases hc12 : a1 = 53
                        · replace hf := z_ifp hf hc12
                          refine lv_tableIn (off := 321) (tgt := 322) hx hb dX3_partsOf_1 (by rw [hc12]; decide) (by rw [hc12]; decide) (by rw [hc12]; decide) (by decide) ?_
                          refine va_ldcS hx hb hown (hK.2.2.2 6 (by decide)) dX3_partsOf_322 ?_
                          exact x_rets hx hb hr hlk hf hP hS dX3_partsOf_324
                        · replace hf := z_ifn hf hc12
                          by_cases hc13 : a1 = 54
                          · replace hf := z_ifp hf hc13
                            refine lv_tableIn (off := 321) (tgt := 322) hx hb dX3_partsOf_1 (by rw [hc13]; decide) (by rw [hc13]; decide) (by rw [hc13]; decide) (by decide) ?_
                            refine va_ldcS hx hb hown (hK.2.2.2 6 (by decide)) dX3_partsOf_322 ?_
                            exact x_rets hx hb hr hlk hf hP hS dX3_partsOf_324
                          · replace hf := z_ifn hf hc13
                            by_cases hc14 : a1 = 55
                            · replace hf := z_ifp hf hc14
                              refine lv_tableIn (off := 321) (tgt := 322) hx hb dX3_partsOf_1 (by rw [hc14]; decide) (by rw [hc14]; decide) (by rw [hc14]; decide) (by decide) ?_
                              refine va_ldcS hx hb hown (hK.2.2.2 6 (by decide)) dX3_partsOf_322 ?_
                              exact x_rets hx hb hr hlk hf hP hS dX3_partsOf_324
                            · replace hf := z_ifn hf hc14
                              by_cases hc15 : a1 = 56
                              · replace hf := z_ifp hf hc15
                                refine lv_tableIn (off := 321) (tgt := 322) hx hb dX3_partsOf_1 (by rw [hc15]; decide) (by rw [hc15]; decide) (by rw [hc15]; decide) (by decide) ?_
                                refine va_ldcS hx hb hown (hK.2.2.2 6 (by decide)) dX3_partsOf_322 ?_
                                exact x_rets hx hb hr hlk hf hP hS dX3_partsOf_324
                              · replace hf := z_ifn hf hc15
                                by_cases hc16 : a1 = 57
                                · replace hf := z_ifp hf hc16
                                  refine lv_tableIn (off := 321) (tgt := 322) hx hb dX3_partsOf_1 (by rw [hc16]; decide) (by rw [hc16]; decide) (by rw [hc16]; decide) (by decide) ?_
                                  refine va_ldcS hx hb hown (hK.2.2.2 6 (by decide)) dX3_partsOf_322 ?_
                                  exact x_rets hx hb hr hlk hf hP hS dX3_partsOf_324
                                · replace hf := z_ifn hf hc16
                                  by_cases hc17 : a1 = 58
                                  · replace hf := z_ifp hf hc17
                                    refine lv_tableIn (off := 321) (tgt := 322) hx hb dX3_partsOf_1 (by rw [hc17]; decide) (by rw [hc17]; decide) (by rw [hc17]; decide) (by decide) ?_
                                    refine va_ldcS hx hb hown (hK.2.2.2 6 (by decide)) dX3_partsOf_322 ?_
                                    exact x_rets hx hb hr hlk hf hP hS dX3_partsOf_324
                                  · replace hf := z_ifn hf hc17
                                    by_cases hc18 : a1 = 59
                                    · replace hf := z_ifp hf hc18
                                      refine lv_tableIn (off := 321) (tgt := 322) hx hb dX3_partsOf_1 (by rw [hc18]; decide) (by rw [hc18]; decide) (by rw [hc18]; decide) (by decide) ?_
                                      refine va_ldcS hx hb hown (hK.2.2.2 6 (by decide)) dX3_partsOf_322 ?_
                                      exact x_rets hx hb hr hlk hf hP hS dX3_partsOf_324
                                    · replace hf := z_ifn hf hc18
                                      by_cases hc19 : a1 = 60
                                      · replace hf := z_ifp hf hc19
                                        refine lv_tableIn (off := 321) (tgt := 322) hx hb dX3_partsOf_1 (by rw [hc19]; decide) (by rw [hc19]; decide) (by rw [hc19]; decide) (by decide) ?_
                                        refine va_ldcS hx hb hown (hK.2.2.2 6 (by decide)) dX3_partsOf_322 ?_
                                        exact x_rets hx hb hr hlk hf hP hS dX3_partsOf_324
                                      · replace hf := z_ifn hf hc19
                                        by_cases hc20 : a1 = 61
                                        · replace hf := z_ifp hf hc20
                                          refine lv_tableIn (off := 321) (tgt := 322) hx hb dX3_partsOf_1 (by rw [hc20]; decide) (by rw [hc20]; decide) (by rw [hc20]; decide) (by decide) ?_
                                          refine va_ldcS hx hb hown (hK.2.2.2 6 (by decide)) dX3_partsOf_322 ?_
                                          exact x_rets hx hb hr hlk hf hP hS dX3_partsOf_324
                                        · replace hf := z_ifn hf hc20
                                          by_cases hc21 : a1 = 62
                                          · replace hf := z_ifp hf hc21
                                            refine lv_tableIn (off := 321) (tgt := 322) hx hb dX3_partsOf_1 (by rw [hc21]; decide) (by rw [hc21]; decide) (by rw [hc21]; decide) (by decide) ?_
                                            refine va_ldcS hx hb hown (hK.2.2.2 6 (by decide)) dX3_partsOf_322 ?_
                                            exact x_rets hx hb hr hlk hf hP hS dX3_partsOf_324
                                          · replace hf := z_ifn hf hc21
                                            by_cases hc22 : a1 = 63
                                            · replace hf := z_ifp hf hc22
                                              refine lv_tableIn (off := 306) (tgt := 307) hx hb dX3_partsOf_1 (by rw [hc22]; decide) (by rw [hc22]; decide) (by rw [hc22]; decide) (by decide) ?_
                                              refine va_ldcS hx hb hown (hK.2.2.2 1 (by decide)) dX3_partsOf_307 ?_
                                              exact x_rets hx hb hr hlk hf hP hS dX3_partsOf_309
                                            · replace hf := z_ifn hf hc22
                                              by_cases hc23 : a1 = 64
                                              · replace hf := z_ifp hf hc23
                                                refine lv_tableIn (off := 303) (tgt := 304) hx hb dX3_partsOf_1 (by rw [hc23]; decide) (by rw [hc23]; decide) (by rw [hc23]; decide) (by decide) ?_
                                                refine va_ldcS hx hb hown (hK.2.2.2 0 (by decide)) dX3_partsOf_304 ?_
                                                exact x_rets hx hb hr hlk hf hP hS dX3_partsOf_306
                                              · replace hf := z_ifn hf hc23
                                                by_cases hc24 : a1 = 65
                                                · replace hf := z_ifp hf hc24
                                                  refine lv_tableIn (off := 321) (tgt := 322) hx hb dX3_partsOf_1 (by rw [hc24]; decide) (by rw [hc24]; decide) (by rw [hc24]; decide) (by decide) ?_
                                                  refine va_ldcS hx hb hown (hK.2.2.2 6 (by decide)) dX3_partsOf_322 ?_
                                                  exact x_rets hx hb hr hlk hf hP hS dX3_partsOf_324
                                                · replace hf := z_ifn hf hc24
                                                  by_cases hc25 : a1 = 66
                                                  · replace hf := z_ifp hf hc25
                                                    refine lv_tableIn (off := 303) (tgt := 304) hx hb dX3_partsOf_1 (by rw [hc25]; decide) (by rw [hc25]; decide) (by rw [hc25]; decide) (by decide) ?_
                                                    refine va_ldcS hx hb hown (hK.2.2.2 0 (by decide)) dX3_partsOf_304 ?_
                                                    exact x_rets hx hb hr hlk hf hP hS dX3_partsOf_306
                                                  · replace hf := z_ifn hf hc25
                                                    by_cases hc26 : a1 = 67
                                                    · replace hf := z_ifp hf hc26
                                                      refine lv_tableIn (off := 303) (tgt := 304) hx hb dX3_partsOf_1 (by rw [hc26]; decide) (by rw [hc26]; decide) (by rw [hc26]; decide) (by decide) ?_
                                                      refine va_ldcS hx hb hown (hK.2.2.2 0 (by decide)) dX3_partsOf_304 ?_
                                                      exact x_rets hx hb hr hlk hf hP hS dX3_partsOf_306
                                                    · replace hf := z_ifn hf hc26
                                                      by_cases hc27 : a1 = 68
                                                      · replace hf := z_ifp hf hc27
                                                        refine lv_tableIn (off := 321) (tgt := 322) hx hb dX3_partsOf_1 (by rw [hc27]; decide) (by rw [hc27]; decide) (by rw [hc27]; decide) (by decide) ?_
                                                        refine va_ldcS hx hb hown (hK.2.2.2 6 (by decide)) dX3_partsOf_322 ?_
                                                        exact x_rets hx hb hr hlk hf hP hS dX3_partsOf_324
                                                      · replace hf := z_ifn hf hc27
                                                        by_cases hc28 : a1 = 69
                                                        · replace hf := z_ifp hf hc28
                                                          refine lv_tableIn (off := 321) (tgt := 322) hx hb dX3_partsOf_1 (by rw [hc28]; decide) (by rw [hc28]; decide) (by rw [hc28]; decide) (by decide) ?_
                                                          refine va_ldcS hx hb hown (hK.2.2.2 6 (by decide)) dX3_partsOf_322 ?_
                                                          exact x_rets hx hb hr hlk hf hP hS dX3_partsOf_324
                                                        · replace hf := z_ifn hf hc28
                                                          by_cases hc29 : a1 = 70
                                                          · replace hf := z_ifp hf hc29
                                                            refine lv_tableIn (off := 312) (tgt := 313) hx hb dX3_partsOf_1 (by rw [hc29]; decide) (by rw [hc29]; decide) (by rw [hc29]; decide) (by decide) ?_
                                                            refine va_ldcS hx hb hown (hK.2.2.2 3 (by decide)) dX3_partsOf_313 ?_
                                                            exact x_rets hx hb hr hlk hf hP hS dX3_partsOf_315
                                                          · replace hf := z_ifn hf hc29
                                                            by_cases hc30 : a1 = 71
                                                            · replace hf := z_ifp hf hc30
                                                              refine lv_tableIn (off := 321) (tgt := 322) hx hb dX3_partsOf_1 (by rw [hc30]; decide) (by rw [hc30]; decide) (by rw [hc30]; decide) (by decide) ?_
                                                              refine va_ldcS hx hb hown (hK.2.2.2 6 (by decide)) dX3_partsOf_322 ?_
                                                              exact x_rets hx hb hr hlk hf hP hS dX3_partsOf_324
                                                            · replace hf := z_ifn hf hc30
                                                              by_cases hc31 : a1 = 72
                                                              · replace hf := z_ifp hf hc31
                                                                refine lv_tableIn (off := 321) (tgt := 322) hx hb dX3_partsOf_1 (by rw [hc31]; decide) (by rw [hc31]; decide) (by rw [hc31]; decide) (by decide) ?_
                                                                refine va_ldcS hx hb hown (hK.2.2.2 6 (by decide)) dX3_partsOf_322 ?_
                                                                exact x_rets hx hb hr hlk hf hP hS dX3_partsOf_324
                                                              · replace hf := z_ifn hf hc31
                                                                by_cases hc32 : a1 = 73
                                                                · replace hf := z_ifp hf hc32
                                                                  refine lv_tableIn (off := 321) (tgt := 322) hx hb dX3_partsOf_1 (by rw [hc32]; decide) (by rw [hc32]; decide) (by rw [hc32]; decide) (by decide) ?_
                                                                  refine va_ldcS hx hb hown (hK.2.2.2 6 (by decide)) dX3_partsOf_322 ?_
                                                                  exact x_rets hx hb hr hlk hf hP hS dX3_partsOf_324
                                                                · replace hf := z_ifn hf hc32
                                                                  by_cases hc33 : a1 = 74
                                                                  · replace hf := z_ifp hf hc33
                                                                    refine lv_tableIn (off := 321) (tgt := 322) hx hb dX3_partsOf_1 (by rw [hc33]; decide) (by rw [hc33]; decide) (by rw [hc33]; decide) (by decide) ?_
                                                                    refine va_ldcS hx hb hown (hK.2.2.2 6 (by decide)) dX3_partsOf_322 ?_
                                                                    exact x_rets hx hb hr hlk hf hP hS dX3_partsOf_324
                                                                  · replace hf := z_ifn hf hc33
                                                                    by_cases hc34 : a1 = 75
                                                                    · replace hf := z_ifp hf hc34
                                                                      refine lv_tableIn (off := 321) (tgt := 322) hx hb dX3_partsOf_1 (by rw [hc34]; decide) (by rw [hc34]; decide) (by rw [hc34]; decide) (by decide) ?_
                                                                      refine va_ldcS hx hb hown (hK.2.2.2 6 (by decide)) dX3_partsOf_322 ?_
                                                                      exact x_rets hx hb hr hlk hf hP hS dX3_partsOf_324
                                                                    · replace hf := z_ifn hf hc34
                                                                      by_cases hc35 : a1 = 76
                                                                      · replace hf := z_ifp hf hc35
                                                                        refine lv_tableIn (off := 309) (tgt := 310) hx hb dX3_partsOf_1 (by rw [hc35]; decide) (by rw [hc35]; decide) (by rw [hc35]; decide) (by decide) ?_
                                                                        refine va_ldcS hx hb hown (hK.2.2.2 2 (by decide)) dX3_partsOf_310 ?_
                                                                        exact x_rets hx hb hr hlk hf hP hS dX3_partsOf_312
                                                                      · replace hf := z_ifn hf hc35
                                                                        by_cases hc36 : a1 = 77
                                                                        · replace hf := z_ifp hf hc36
                                                                          refine lv_tableIn (off := 321) (tgt := 322) hx hb dX3_partsOf_1 (by rw [hc36]; decide) (by rw [hc36]; decide) (by rw [hc36]; decide) (by decide) ?_
                                                                          refine va_ldcS hx hb hown (hK.2.2.2 6 (by decide)) dX3_partsOf_322 ?_
                                                                          exact x_rets hx hb hr hlk hf hP hS dX3_partsOf_324
                                                                        · replace hf := z_ifn hf hc36
                                                                          by_cases hc37 : a1 = 78
                                                                          · replace hf := z_ifp hf hc37
                                                                            refine lv_tableIn (off := 321) (tgt := 322) hx hb dX3_partsOf_1 (by rw [hc37]; decide) (by rw [hc37]; decide) (by rw [hc37]; decide) (by decide) ?_
                                                                            refine va_ldcS hx hb hown (hK.2.2.2 6 (by decide)) dX3_partsOf_322 ?_
                                                                            exact x_rets hx hb hr hlk hf hP hS dX3_partsOf_324
                                                                          · replace hf := z_ifn hf hc37
                                                                            by_cases hc38 : a1 = 79
                                                                            · replace hf := z_ifp hf hc38
                                                                              refine lv_tableIn (off := 321) (tgt := 322) hx hb dX3_partsOf_1 (by rw [hc38]; decide) (by rw [hc38]; decide) (by rw [hc38]; decide) (by decide) ?_
                                                                              refine va_ldcS hx hb hown (hK.2.2.2 6 (by decide)) dX3_partsOf_322 ?_
                                                                              exact x_rets hx hb hr hlk hf hP hS dX3_partsOf_324
                                                                            · replace hf := z_ifn hf hc38
                                                                              by_cases hc39 : a1 = 80
                                                                              · replace hf := z_ifp hf hc39
                                                                                refine lv_tableIn (off := 315) (tgt := 316) hx hb dX3_partsOf_1 (by rw [hc39]; decide) (by rw [hc39]; decide) (by rw [hc39]; decide) (by decide) ?_
                                                                                refine va_ldcS hx hb hown (hK.2.2.2 4 (by decide)) dX3_partsOf_316 ?_
                                                                                exact x_rets hx hb hr hlk hf hP hS dX3_partsOf_318
                                                                              · replace hf := z_ifn hf hc39
                                                                                by_cases hc40 : a1 = 81
                                                                                · replace hf := z_ifp hf hc40
                                                                                  refine lv_tableIn (off := 315) (tgt := 316) hx hb dX3_partsOf_1 (by rw [hc40]; decide) (by rw [hc40]; decide) (by rw [hc40]; decide) (by decide) ?_
                                                                                  refine va_ldcS hx hb hown (hK.2.2.2 4 (by decide)) dX3_partsOf_316 ?_
                                                                                  exact x_rets hx hb hr hlk hf hP hS dX3_partsOf_318
                                                                                · replace hf := z_ifn hf hc40
                                                                                  by_cases hc41 : a1 = 82
                                                                                  · replace hf := z_ifp hf hc41
                                                                                    refine lv_tableIn (off := 321) (tgt := 322) hx hb dX3_partsOf_1 (by rw [hc41]; decide) (by rw [hc41]; decide) (by rw [hc41]; decide) (by decide) ?_
                                                                                    refine va_ldcS hx hb hown (hK.2.2.2 6 (by decide)) dX3_partsOf_322 ?_
                                                                                    exact x_rets hx hb hr hlk hf hP hS dX3_partsOf_324
                                                                                  · replace hf := z_ifn hf hc41
                                                                                    by_cases hc42 : a1 = 83
                                                                                    · replace hf := z_ifp hf hc42
                                                                                      refine lv_tableIn (off := 312) (tgt := 313) hx hb dX3_partsOf_1 (by rw [hc42]; decide) (by rw [hc42]; decide) (by rw [hc42]; decide) (by decide) ?_
                                                                                      refine va_ldcS hx hb hown (hK.2.2.2 3 (by decide)) dX3_partsOf_313 ?_
                                                                                      exact x_rets hx hb hr hlk hf hP hS dX3_partsOf_315
                                                                                    · replace hf := z_ifn hf hc42
                                                                                      by_cases hc43 : a1 = 84
                                                                                      · replace hf := z_ifp hf hc43
                                                                                        refine lv_tableIn (off := 321) (tgt := 322) hx hb dX3_partsOf_1 (by rw [hc43]; decide) (by rw [hc43]; decide) (by rw [hc43]; decide) (by decide) ?_
                                                                                        refine va_ldcS hx hb hown (hK.2.2.2 6 (by decide)) dX3_partsOf_322 ?_
                                                                                        exact x_rets hx hb hr hlk hf hP hS dX3_partsOf_324
                                                                                      · replace hf := z_ifn hf hc43
                                                                                        by_cases hc44 : a1 = 85
                                                                                        · replace hf := z_ifp hf hc44
                                                                                          refine lv_tableIn (off := 321) (tgt := 322) hx hb dX3_partsOf_1 (by rw [hc44]; decide) (by rw [hc44]; decide) (by rw [hc44]; decide) (by decide) ?_
                                                                                          refine va_ldcS hx hb hown (hK.2.2.2 6 (by decide)) dX3_partsOf_322 ?_
                                                                                          exact x_rets hx hb hr hlk hf hP hS dX3_partsOf_324
                                                                                        · replace hf := z_ifn hf hc44
                                                                                          by_cases hc45 : a1 = 86
                                                                                          · replace hf := z_ifp hf hc45
                                                                                            refine lv_tableIn (off := 321) (tgt := 322) hx hb dX3_partsOf_1 (by rw [hc45]; decide) (by rw [hc45]; decide) (by rw [hc45]; decide) (by decide) ?_
                                                                                            refine va_ldcS hx hb hown (hK.2.2.2 6 (by decide)) dX3_partsOf_322 ?_
                                                                                            exact x_rets hx hb hr hlk hf hP hS dX3_partsOf_324
                                                                                          · replace hf := z_ifn hf hc45
                                                                                            by_cases hc46 : a1 = 87
                                                                                            · replace hf := z_ifp hf hc46
                                                                                              refine lv_tableIn (off := 315) (tgt := 316) hx hb dX3_partsOf_1 (by rw [hc46]; decide) (by rw [hc46]; decide) (by rw [hc46]; decide) (by decide) ?_
                                                                                              refine va_ldcS hx hb hown (hK.2.2.2 4 (by decide)) dX3_partsOf_316 ?_
                                                                                              exact x_rets hx hb hr hlk hf hP hS dX3_partsOf_318
                                                                                            · replace hf := z_ifn hf hc46
                                                                                              by_cases hc47 : a1 = 88
                                                                                              · replace hf := z_ifp hf hc47
                                                                                                refine lv_tableIn (off := 315) (tgt := 316) hx hb dX3_partsOf_1 (by rw [hc47]; decide) (by rw [hc47]; decide) (by rw [hc47]; decide) (by decide) ?_
                                                                                                refine va_ldcS hx hb hown (hK.2.2.2 4 (by decide)) dX3_partsOf_316 ?_
                                                                                                exact x_rets hx hb hr hlk hf hP hS dX3_partsOf_318
                                                                                              · replace hf := z_ifn hf hc47
                                                                                                by_cases hc48 : a1 = 89
                                                                                                · replace hf := z_ifp hf hc48
                                                                                                  refine lv_tableIn (off := 318) (tgt := 319) hx hb dX3_partsOf_1 (by rw [hc48]; decide) (by rw [hc48]; decide) (by rw [hc48]; decide) (by decide) ?_
                                                                                                  refine va_ldcS hx hb hown (hK.2.2.2 5 (by decide)) dX3_partsOf_319 ?_
                                                                                                  exact x_rets hx hb hr hlk hf hP hS dX3_partsOf_321
                                                                                                · replace hf := z_ifn hf hc48
                                                                                                  by_cases hc49 : a1 = 90
                                                                                                  · replace hf := z_ifp hf hc49
                                                                                                    refine lv_tableIn (off := 321) (tgt := 322) hx hb dX3_partsOf_1 (by rw [hc49]; decide) (by rw [hc49]; decide) (by rw [hc49]; decide) (by decide) ?_
                                                                                                    refine va_ldcS hx hb hown (hK.2.2.2 6 (by decide)) dX3_partsOf_322 ?_
                                                                                                    exact x_rets hx hb hr hlk hf hP hS dX3_partsOf_324
                                                                                                  · replace hf := z_ifn hf hc49
                                                                                                    by_cases hc50 : a1 = 91
                                                                                                    · replace hf := z_ifp hf hc50
                                                                                                      refine lv_tableIn (off := 321) (tgt := 322) hx hb dX3_partsOf_1 (by rw [hc50]; decide) (by rw [hc50]; decide) (by rw [hc50]; decide) (by decide) ?_
                                                                                                      refine va_ldcS hx hb hown (hK.2.2.2 6 (by decide)) dX3_partsOf_322 ?_
                                                                                                      exact x_rets hx hb hr hlk hf hP hS dX3_partsOf_324
                                                                                                    · replace hf := z_ifn hf hc50
                                                                                                      by_cases hc51 : a1 = 92
                                                                                                      · replace hf := z_ifp hf hc51
                                                                                                        refine lv_tableIn (off := 321) (tgt := 322) hx hb dX3_partsOf_1 (by rw [hc51]; decide) (by rw [hc51]; decide) (by rw [hc51]; decide) (by decide) ?_
                                                                                                        refine va_ldcS hx hb hown (hK.2.2.2 6 (by decide)) dX3_partsOf_322 ?_
                                                                                                        exact x_rets hx hb hr hlk hf hP hS dX3_partsOf_324
                                                                                                      · replace hf := z_ifn hf hc51
                                                                                                        by_cases hc52 : a1 = 93
                                                                                                        · replace hf := z_ifp hf hc52
                                                                                                          refine lv_tableIn (off := 321) (tgt := 322) hx hb dX3_partsOf_1 (by rw [hc52]; decide) (by rw [hc52]; decide) (by rw [hc52]; decide) (by decide) ?_
                                                                                                          refine va_ldcS hx hb hown (hK.2.2.2 6 (by decide)) dX3_partsOf_322 ?_
                                                                                                          exact x_rets hx hb hr hlk hf hP hS dX3_partsOf_324
                                                                                                        · replace hf := z_ifn hf hc52
                                                                                                          by_cases hc53 : a1 = 94
                                                                                                          · replace hf := z_ifp hf hc53
                                                                                                            refine lv_tableIn (off := 321) (tgt := 322) hx hb dX3_partsOf_1 (by rw [hc53]; decide) (by rw [hc53]; decide) (by rw [hc53]; decide) (by decide) ?_
                                                                                                            refine va_ldcS hx hb hown (hK.2.2.2 6 (by decide)) dX3_partsOf_322 ?_
                                                                                                            exact x_rets hx hb hr hlk hf hP hS dX3_partsOf_324
                                                                                                          · replace hf := z_ifn hf hc53
                                                                                                            by_cases hc54 : a1 = 95
                                                                                                            · replace hf := z_ifp hf hc54
                                                                                                              refine lv_tableIn (off := 321) (tgt := 322) hx hb dX3_partsOf_1 (by rw [hc54]; decide) (by rw [hc54]; decide) (by rw [hc54]; decide) (by decide) ?_
                                                                                                              refine va_ldcS hx hb hown (hK.2.2.2 6 (by decide)) dX3_partsOf_322 ?_
                                                                                                              exact x_rets hx hb hr hlk hf hP hS dX3_partsOf_324
                                                                                                            · replace hf := z_ifn hf hc54
                                                                                                              by_cases hc55 : a1 = 96
                                                                                                              · replace hf := z_ifp hf hc55
                                                                                                                refine lv_tableIn (off := 321) (tgt := 322) hx hb dX3_partsOf_1 (by rw [hc55]; decide) (by rw [hc55]; decide) (by rw [hc55]; decide) (by decide) ?_
                                                                                                                refine va_ldcS hx hb hown (hK.2.2.2 6 (by decide)) dX3_partsOf_322 ?_
                                                                                                                exact x_rets hx hb hr hlk hf hP hS dX3_partsOf_324
                                                                                                              · replace hf := z_ifn hf hc55
                                                                                                                by_cases hc56 : a1 = 97
                                                                                                                · replace hf := z_ifp hf hc56
                                                                                                                  refine lv_tableIn (off := 321) (tgt := 322) hx hb dX3_partsOf_1 (by rw [hc56]; decide) (by rw [hc56]; decide) (by rw [hc56]; decide) (by decide) ?_
                                                                                                                  refine va_ldcS hx hb hown (hK.2.2.2 6 (by decide)) dX3_partsOf_322 ?_
                                                                                                                  exact x_rets hx hb hr hlk hf hP hS dX3_partsOf_324
                                                                                                                · replace hf := z_ifn hf hc56
                                                                                                                  by_cases hc57 : a1 = 98
                                                                                                                  · replace hf := z_ifp hf hc57
                                                                                                                    refine lv_tableIn (off := 321) (tgt := 322) hx hb dX3_partsOf_1 (by rw [hc57]; decide) (by rw [hc57]; decide) (by rw [hc57]; decide) (by decide) ?_
                                                                                                                    refine va_ldcS hx hb hown (hK.2.2.2 6 (by decide)) dX3_partsOf_322 ?_
                                                                                                                    exact x_rets hx hb hr hlk hf hP hS dX3_partsOf_324
                                                                                                                  · replace hf := z_ifn hf hc57
                                                                                                                    by_cases hc58 : a1 = 99
                                                                                                                    · replace hf := z_ifp hf hc58
                                                                                                                      refine lv_tableIn (off := 321) (tgt := 322) hx hb dX3_partsOf_1 (by rw [hc58]; decide) (by rw [hc58]; decide) (by rw [hc58]; decide) (by decide) ?_
                                                                                                                      refine va_ldcS hx hb hown (hK.2.2.2 6 (by decide)) dX3_partsOf_322 ?_
                                                                                                                      exact x_rets hx hb hr hlk hf hP hS dX3_partsOf_324
                                                                                                                    · replace hf := z_ifn hf hc58
                                                                                                                      by_cases hc59 : a1 = 100
                                                                                                                      · replace hf := z_ifp hf hc59
                                                                                                                        refine lv_tableIn (off := 321) (tgt := 322) hx hb dX3_partsOf_1 (by rw [hc59]; decide) (by rw [hc59]; decide) (by rw [hc59]; decide) (by decide) ?_
                                                                                                                        refine va_ldcS hx hb hown (hK.2.2.2 6 (by decide)) dX3_partsOf_322 ?_
                                                                                                                        exact x_rets hx hb hr hlk hf hP hS dX3_partsOf_324
                                                                                                                      · replace hf := z_ifn hf hc59
                                                                                                                        by_cases hc60 : a1 = 101
                                                                                                                        · replace hf := z_ifp hf hc60
                                                                                                                          refine lv_tableIn (off := 321) (tgt := 322) hx hb dX3_partsOf_1 (by rw [hc60]; decide) (by rw [hc60]; decide) (by rw [hc60]; decide) (by decide) ?_
                                                                                                                          refine va_ldcS hx hb hown (hK.2.2.2 6 (by decide)) dX3_partsOf_322 ?_
                                                                                                                          exact x_rets hx hb hr hlk hf hP hS dX3_partsOf_324
                                                                                                                        · replace hf := z_ifn hf hc60
                                                                                                                          by_cases hc61 : a1 = 102
                                                                                                                          · replace hf := z_ifp hf hc61
                                                                                                                            refine lv_tableIn (off := 321) (tgt := 322) hx hb dX3_partsOf_1 (by rw [hc61]; decide) (by rw [hc61]; decide) (by rw [hc61]; decide) (by decide) ?_
                                                                                                                            refine va_ldcS hx hb hown (hK.2.2.2 6 (by decide)) dX3_partsOf_322 ?_
                                                                                                                            exact x_rets hx hb hr hlk hf hP hS dX3_partsOf_324
                                                                                                                          · replace hf := z_ifn hf hc61
                                                                                                                            by_cases hc62 : a1 = 103
                                                                                                                            · replace hf := z_ifp hf hc62
                                                                                                                              refine lv_tableIn (off := 321) (tgt := 322) hx hb dX3_partsOf_1 (by rw [hc62]; decide) (by rw [hc62]; decide) (by rw [hc62]; decide) (by decide) ?_
                                                                                                                              refine va_ldcS hx hb hown (hK.2.2.2 6 (by decide)) dX3_partsOf_322 ?_
                                                                                                                              exact x_rets hx hb hr hlk hf hP hS dX3_partsOf_324
                                                                                                                            · replace hf := z_ifn hf hc62
                                                                                                                              by_cases hc63 : a1 = 104
                                                                                                                              · replace hf := z_ifp hf hc63
                                                                                                                                refine lv_tableIn (off := 321) (tgt := 322) hx hb dX3_partsOf_1 (by rw [hc63]; decide) (by rw [hc63]; decide) (by rw [hc63]; decide) (by decide) ?_
                                                                                                                                refine va_ldcS hx hb hown (hK.2.2.2 6 (by decide)) dX3_partsOf_322 ?_
                                                                                                                                exact x_rets hx hb hr hlk hf hP hS dX3_partsOf_324
                                                                                                                              · replace hf := z_ifn hf hc63
                                                                                                                                by_cases hc64 : a1 = 105
                                                                                                                                · replace hf := z_ifp hf hc64
                                                                                                                                  refine lv_tableIn (off := 321) (tgt := 322) hx hb dX3_partsOf_1 (by rw [hc64]; decide) (by rw [hc64]; decide) (by rw [hc64]; decide) (by decide) ?_
                                                                                                                                  refine va_ldcS hx hb hown (hK.2.2.2 6 (by decide)) dX3_partsOf_322 ?_
                                                                                                                                  exact x_rets hx hb hr hlk hf hP hS dX3_partsOf_324
                                                                                                                                · replace hf := z_ifn hf hc64
                                                                                                                                  by_cases hc65 : a1 = 106
                                                                                                                                  · replace hf := z_ifp hf hc65
                                                                                                                                    refine lv_tableIn (off := 321) (tgt := 322) hx hb dX3_partsOf_1 (by rw [hc65]; decide) (by rw [hc65]; decide) (by rw [hc65]; decide) (by decide) ?_
                                                                                                                                    refine va_ldcS hx hb hown (hK.2.2.2 6 (by decide)) dX3_partsOf_322 ?_
                                                                                                                                    exact x_rets hx hb hr hlk hf hP hS dX3_partsOf_324
                                                                                                                                  · replace hf := z_ifn hf hc65
                                                                                                                                    by_cases hc66 : a1 = 107
                                                                                                                                    · replace hf := z_ifp hf hc66
                                                                                                                                      refine lv_tableIn (off := 321) (tgt := 322) hx hb dX3_partsOf_1 (by rw [hc66]; decide) (by rw [hc66]; decide) (by rw [hc66]; decide) (by decide) ?_
                                                                                                                                      refine va_ldcS hx hb hown (hK.2.2.2 6 (by decide)) dX3_partsOf_322 ?_
                                                                                                                                      exact x_rets hx hb hr hlk hf hP hS dX3_partsOf_324
                                                                                                                                    · replace hf := z_ifn hf hc66
                                                                                                                                      by_cases hc67 : a1 = 108
                                                                                                                                      · replace hf := z_ifp hf hc67
                                                                                                                                        refine lv_tableIn (off := 321) (tgt := 322) hx hb dX3_partsOf_1 (by rw [hc67]; decide) (by rw [hc67]; decide) (by rw [hc67]; decide) (by decide) ?_
                                                                                                                                        refine va_ldcS hx hb hown (hK.2.2.2 6 (by decide)) dX3_partsOf_322 ?_
                                                                                                                                        exact x_rets hx hb hr hlk hf hP hS dX3_partsOf_324
                                                                                                                                      · replace hf := z_ifn hf hc67
                                                                                                                                        by_cases hc68 : a1 = 109
                                                                                                                                        · replace hf := z_ifp hf hc68
                                                                                                                                          refine lv_tableIn (off := 321) (tgt := 322) hx hb dX3_partsOf_1 (by rw [hc68]; decide) (by rw [hc68]; decide) (by rw [hc68]; decide) (by decide) ?_
                                                                                                                                          refine va_ldcS hx hb hown (hK.2.2.2 6 (by decide)) dX3_partsOf_322 ?_
                                                                                                                                          exact x_rets hx hb hr hlk hf hP hS dX3_partsOf_324
                                                                                                                                        · replace hf := z_ifn hf hc68
                                                                                                                                          by_cases hc69 : a1 = 110
                                                                                                                                          · replace hf := z_ifp hf hc69
                                                                                                                                            refine lv_tableIn (off := 321) (tgt := 322) hx hb dX3_partsOf_1 (by rw [hc69]; decide) (by rw [hc69]; decide) (by rw [hc69]; decide) (by decide) ?_
                                                                                                                                            refine va_ldcS hx hb hown (hK.2.2.2 6 (by decide)) dX3_partsOf_322 ?_
                                                                                                                                            exact x_rets hx hb hr hlk hf hP hS dX3_partsOf_324
                                                                                                                                          · replace hf := z_ifn hf hc69
                                                                                                                                            by_cases hc70 : a1 = 111
                                                                                                                                            · replace hf := z_ifp hf hc70
                                                                                                                                              refine lv_tableIn (off := 321) (tgt := 322) hx hb dX3_partsOf_1 (by rw [hc70]; decide) (by rw [hc70]; decide) (by rw [hc70]; decide) (by decide) ?_
                                                                                                                                              refine va_ldcS hx hb hown (hK.2.2.2 6 (by decide)) dX3_partsOf_322 ?_
                                                                                                                                              exact x_rets hx hb hr hlk hf hP hS dX3_partsOf_324
                                                                                                                                            · replace hf := z_ifn hf hc70
                                                                                                                                              by_cases hc71 : a1 = 112
                                                                                                                                              · replace hf := z_ifp hf hc71
                                                                                                                                                refine lv_tableIn (off := 315) (tgt := 316) hx hb dX3_partsOf_1 (by rw [hc71]; decide) (by rw [hc71]; decide) (by rw [hc71]; decide) (by decide) ?_
                                                                                                                                                refine va_ldcS hx hb hown (hK.2.2.2 4 (by decide)) dX3_partsOf_316 ?_
                                                                                                                                                exact x_rets hx hb hr hlk hf hP hS dX3_partsOf_318
                                                                                                                                              · replace hf := z_ifn hf hc71
                                                                                                                                                by_cases hc72 : a1 = 113
                                                                                                                                                · replace hf := z_ifp hf hc72
                                                                                                                                                  refine lv_tableIn (off := 315) (tgt := 316) hx hb dX3_partsOf_1 (by rw [hc72]; decide) (by rw [hc72]; decide) (by rw [hc72]; decide) (by decide) ?_
                                                                                                                                                  refine va_ldcS hx hb hown (hK.2.2.2 4 (by decide)) dX3_partsOf_316 ?_
                                                                                                                                                  exact x_rets hx hb hr hlk hf hP hS dX3_partsOf_318
                                                                                                                                                · replace hf := z_ifn hf hc72
                                                                                                                                                  refine lv_tableOut (tgt := 322) hx hb dX3_partsOf_1 (by have := lv_neT (a := 42) hc1 (by decide); have := lv_neT (a := 43) hc2 (by decide); have := lv_neT (a := 44) hc3 (by decide); have := lv_neT (a := 45) hc4 (by decide); have := lv_neT (a := 46) hc5 (by decide); have := lv_neT (a := 47) hc6 (by decide); have := lv_neT (a := 48) hc7 (by decide); have := lv_neT (a := 49) hc8 (by decide); have := lv_neT (a := 50) hc9 (by decide); have := lv_neT (a := 51) hc10 (by decide); have := lv_neT (a := 52) hc11 (by decide); have := lv_neT (a := 53) hc12 (by decide); have := lv_neT (a := 54) hc13 (by decide); have := lv_neT (a := 55) hc14 (by decide); have := lv_neT (a := 56) hc15 (by decide); have := lv_neT (a := 57) hc16 (by decide); have := lv_neT (a := 58) hc17 (by decide); have := lv_neT (a := 59) hc18 (by decide); have := lv_neT (a := 60) hc19 (by decide); have := lv_neT (a := 61) hc20 (by decide); have := lv_neT (a := 62) hc21 (by decide); have := lv_neT (a := 63) hc22 (by decide); have := lv_neT (a := 64) hc23 (by decide); have := lv_neT (a := 65) hc24 (by decide); have := lv_neT (a := 66) hc25 (by decide); have := lv_neT (a := 67) hc26 (by decide); have := lv_neT (a := 68) hc27 (by decide); have := lv_neT (a := 69) hc28 (by decide); have := lv_neT (a := 70) hc29 (by decide); have := lv_neT (a := 71) hc30 (by decide); have := lv_neT (a := 72) hc31 (by decide); have := lv_neT (a := 73) hc32 (by decide); have := lv_neT (a := 74) hc33 (by decide); have := lv_neT (a := 75) hc34 (by decide); have := lv_neT (a := 76) hc35 (by decide); have := lv_neT (a := 77) hc36 (by decide); have := lv_neT (a := 78) hc37 (by decide); have := lv_neT (a := 79) hc38 (by decide); have := lv_neT (a := 80) hc39 (by decide); have := lv_neT (a := 81) hc40 (by decide); have := lv_neT (a := 82) hc41 (by decide); have := lv_neT (a := 83) hc42 (by decide); have := lv_neT (a := 84) hc43 (by decide); have := lv_neT (a := 85) hc44 (by decide); have := lv_neT (a := 86) hc45 (by decide); have := lv_neT (a := 87) hc46 (by decide); have := lv_neT (a := 88) hc47 (by decide); have := lv_neT (a := 89) hc48 (by decide); have := lv_neT (a := 90) hc49 (by decide); have := lv_neT (a := 91) hc50 (by decide); have := lv_neT (a := 92) hc51 (by decide); have := lv_neT (a := 93) hc52 (by decide); have := lv_neT (a := 94) hc53 (by decide); have := lv_neT (a := 95) hc54 (by decide); have := lv_neT (a := 96) hc55 (by decide); have := lv_neT (a := 97) hc56 (by decide); have := lv_neT (a := 98) hc57 (by decide); have := lv_neT (a := 99) hc58 (by decide); have := lv_neT (a := 100) hc59 (by decide); have := lv_neT (a := 101) hc60 (by decide); have := lv_neT (a := 102) hc61 (by decide); have := lv_neT (a := 103) hc62 (by decide); have := lv_neT (a := 104) hc63 (by decide); have := lv_neT (a := 105) hc64 (by decide); have := lv_neT (a := 106) hc65 (by decide); have := lv_neT (a := 107) hc66 (by decide); have := lv_neT (a := 108) hc67 (by decide); have := lv_neT (a := 109) hc68 (by decide); have := lv_neT (a := 110) hc69 (by decide); have := lv_neT (a := 111) hc70 (by decide); have := lv_neT (a := 112) hc71 (by decide); have := lv_neT (a := 113) hc72 (by decide); omega) (by decide) ?_
                                                                                                                                                  refine va_ldcS hx hb hown (hK.2.2.2 6 (by decide)) dX3_partsOf_322 ?_
                                                                                                                                                  exact x_rets hx hb hr hlk hf hP hS dX3_partsOf_324
theorem cs_X3_partsOf : z_cs yX3_partsOf cX3_partsOf 1 (some (.object "java/lang/String")) 1 := ⟨tw376, tw377, tw10, by decide +kernel⟩
def f_X3_isSign (N : Nat) (a1 : Int32) (S : St) : Option (Int32 × St) := z_bd (f_X3_isDigit N (a1) S) fun r2 S1 => if r2 = 0 then (z_bd (f_X3_isName N (a1) S1) fun r6 S5 => if r6 = 0 then (z_bd (f_X3_partsOf N (a1) S5) fun r10 S9 => z_bd (f_J0_isEmpty_aae02 N (r10) S9) fun r13 S12 => if r13 = 0 then (some (1, S12)) else (some (0, S12))) else (some (1, S5))) else (some (1, S1))
set_option maxHeartbeats 4000000 in
set_option maxRecDepth 100000 in
theorem c_X3_isSign {l : Launch} {G : Cx} {M S S' : St} {N : Nat} {a1 : Int32} {r : Int32} (hq : z_inj (gq G)) (hf : f_X3_isSign N a1 S = some (r, S')) : z_Ct l yX3_isSign cX3_isSign 1 (some .boolean) 1 20 G S M [.int (a1)] (z_QI G S' M r) := by
  refine z_start (by decide +kernel) (Nat.le_of_ble_eq_true rfl) ?_
  intro p e s m below meth c ls E hr hlk hK hP hS hl
  have E : CallFix p m c cX3_isSign 1 s _ lw_good RX3 := E
  have hx := E.1
  have hb := E.2.1
  have hown := E.2.2.2.1
  have hts := E.2.2.2.2
  have hl : lv_has ls 1 [(0, .int (a1))] := hl
  unfold f_X3_isSign at hf
  refine lv_iload_n hx hb dX3_isSign_0 rfl (lv_at hl 0 rfl) ?_
  obtain ⟨r2, S1, hz3, hf⟩ := z_bd_some hf
  refine z_ci (z_runS E hK hP hS (c_X3_isDigit hq hz3) cs_X3_isDigit tw372 rfl ⟨Nat.le_of_ble_eq_true rfl, Nat.le_of_ble_eq_true rfl⟩ ⟨Nat.le_refl 0, Nat.le_refl 0⟩ hl.1 (Nat.le_of_ble_eq_true rfl) rfl dX3_isSign_1) hS (fun H locs hP hS => ?_)
  refine lv_if_ne (tgt := 24) hx hb dX3_isSign_4 (by decide) (fun hc4 => ?_) (fun hc4 => ?_)
  · replace hf := z_ifn hf hc4
    refine lv_iconst (v := 1) hx hb dX3_isSign_24 (by decide) ?_
    refine lv_goto (tgt := 29) hx hb dX3_isSign_25 (by decide) ?_
    exact x_retz hx hb hr hlk rfl hf hP hS dX3_isSign_29
  · replace hf := z_ifp hf hc4
    refine lv_iload_n hx hb dX3_isSign_7 rfl (lv_at hl 0 rfl) ?_
    obtain ⟨r6, S5, hz7, hf⟩ := z_bd_some hf
    refine z_ci (z_runS E hK hP hS (c_X3_isName hq hz7) cs_X3_isName tw366 rfl ⟨Nat.le_of_ble_eq_true rfl, Nat.le_of_ble_eq_true rfl⟩ ⟨Nat.le_refl 0, Nat.le_refl 0⟩ hl.1 (Nat.le_of_ble_eq_true rfl) rfl dX3_isSign_8) hS (fun H locs hP hS => ?_)
    refine lv_if_ne (tgt := 24) hx hb dX3_isSign_11 (by decide) (fun hc8 => ?_) (fun hc8 => ?_)
    · replace hf := z_ifn hf hc8
      refine lv_iconst (v := 1) hx hb dX3_isSign_24 (by decide) ?_
      refine lv_goto (tgt := 29) hx hb dX3_isSign_25 (by decide) ?_
      exact x_retz hx hb hr hlk rfl hf hP hS dX3_isSign_29
    · replace hf := z_ifp hf hc8
      refine lv_iload_n hx hb dX3_isSign_14 rfl (lv_at hl 0 rfl) ?_
      obtain ⟨r10, S9, hz11, hf⟩ := z_bd_some hf
      refine z_cr (z_runS E hK hP hS (c_X3_partsOf hq hz11) cs_X3_partsOf tw375 rfl ⟨Nat.le_of_ble_eq_true rfl, Nat.le_of_ble_eq_true rfl⟩ ⟨Nat.le_refl 0, Nat.le_refl 0⟩ hl.1 (Nat.le_of_ble_eq_true rfl) rfl dX3_isSign_15) hS (fun H locs hP hS => ?_)
      obtain ⟨r13, S12, hz14, hf⟩ := z_bd_some hf
      refine z_ci (z_runVS E hK hP hS (c_J0_isEmpty_aae02 hq hz14) cv_J0_isEmpty_aae02 tw385 rfl ⟨Nat.le_of_ble_eq_true rfl, Nat.le_of_ble_eq_true rfl⟩ ⟨Nat.le_refl 0, Nat.le_refl 0⟩ hl.1 (Nat.le_of_ble_eq_true rfl) rfl dX3_isSign_18) hS (fun H locs hP hS => ?_)
      refine lv_if_ne (tgt := 28) hx hb dX3_isSign_21 (by decide) (fun hc15 => ?_) (fun hc15 => ?_)
      · replace hf := z_ifn hf hc15
        refine lv_iconst (v := 0) hx hb dX3_isSign_28 (by decide) ?_
        exact x_retz hx hb hr hlk rfl hf hP hS dX3_isSign_29
      · replace hf := z_ifp hf hc15
        refine lv_iconst (v := 1) hx hb dX3_isSign_24 (by decide) ?_
        refine lv_goto (tgt := 29) hx hb dX3_isSign_25 (by decide) ?_
        exact x_retz hx hb hr hlk rfl hf hP hS dX3_isSign_29
theorem cs_X3_isSign : z_cs yX3_isSign cX3_isSign 1 (some .boolean) 1 := ⟨tw370, tw371, tw10, by decide +kernel⟩
def b_X3_fits_103 (N : Nat) (k103 : Nat → Int32 → St → Option (Int32 × St)) (v4 : Nat) (v5 : Int32) (S : St) : Option (Int32 × St) := if v5 < 0 then (z_lt (z_wr S 56 6 ((S 56 6) + 1)) fun S32 => some (1, S32)) else (z_bd (f_J0_charAt_5068e N (v4) (v5) S) fun r34 S33 => z_bv (f_X3_await N ((S 56 6)) (r34) S33) fun S36 => k103 (v4) ((v5 + (-1))) S36)
def f_X3_fits_103 (N : Nat) : Nat → Nat → Int32 → St → Option (Int32 × St)
  | 0 => fun _ _ _ => none
  | n + 1 => b_X3_fits_103 N (f_X3_fits_103 N n)
def f_X3_fits (N : Nat) (a1 : Int32) (S : St) : Option (Int32 × St) := if 0 < (S 56 5) then (z_lt (z_wr S 56 5 ((S 56 5) - 1)) fun S2 => z_bd (f_X9_at N (57) (a1) S2) fun r4 S3 => z_bd (f_X9_at N (61) ((S3 56 5)) S3) fun r7 S6 => z_bd (f_X9_at N (60) ((S6 56 5)) S6) fun r10 S9 => z_bv (f_X9_put N (58) (a1) (r10) S9) fun S12 => z_bv (f_X9_put N (59) (a1) (r7) S12) fun S14 => if r7 = 118 then (z_bd (f_X3_isName N (r4) S14) fun r28 S27 => z_gd (r28 = 0 ∨ r28 = 1) (some (r28, S27))) else (z_bd (f_X3_isSign N (r4) S14) fun r18 S17 => if r18 = 0 then (some (0, S17)) else (z_bd (f_X3_partsOf N (r4) S17) fun r22 S21 => z_bd (f_J0_length_8abf5 N (r22) S21) fun r25 S24 => f_X3_fits_103 N N (r22) ((r25 - 1)) S24))) else (some (0, S))
set_option maxHeartbeats 4000000 in
set_option maxRecDepth 100000 in
theorem c_X3_fits {l : Launch} {G : Cx} {M S S' : St} {N : Nat} {a1 : Int32} {r : Int32} (hq : z_inj (gq G)) (hf : f_X3_fits N a1 S = some (r, S')) : z_Ct l yX3_fits cX3_fits 6 (some .boolean) 4 85 G S M [.ref (gq G (56)), .int (a1)] (z_QI G S' M r) := by
  refine z_start (by decide +kernel) (Nat.le_of_ble_eq_true rfl) ?_
  intro p e s m below meth c ls E hr hlk hK hP hS hl
  have E : CallFix p m c cX3_fits 6 s _ lw_good RX3 := E
  have hx := E.1
  have hb := E.2.1
  have hown := E.2.2.2.1
  have hts := E.2.2.2.2
  have hB103 : ∀ (k103 : Nat → Int32 → St → Option (Int32 × St)) (hk103 : ∀ (v4 : Nat) (v5 : Int32) (S : St) (H : Heap) (locs : List Loc) (ls : Array Slot), k103 v4 v5 S = some (r, S') → z_P G S M H → z_S G s.heap H locs → lv_has ls 6 [(0, .ref (gq G (56))), (4, .ref (G.2.2.2.1 (v4))), (5, .int (v5))] → W p l e (z_rm 4 85) s m ([.ref (gq G (56)), .int (a1)] : List Value).toArray below meth c H locs 0 0 (MQ below (z_QI G S' M r) ([.ref (gq G (56)), .int (a1)] : List Value).toArray s 0 0 (z_Aq (gq G))) (F0 m 103 ls [])), ∀ (v4 : Nat) (v5 : Int32) (S : St) (H : Heap) (locs : List Loc) (ls : Array Slot), b_X3_fits_103 N k103 v4 v5 S = some (r, S') → z_P G S M H → z_S G s.heap H locs → lv_has ls 6 [(0, .ref (gq G (56))), (4, .ref (G.2.2.2.1 (v4))), (5, .int (v5))] → W p l e (z_rm 4 85) s m ([.ref (gq G (56)), .int (a1)] : List Value).toArray below meth c H locs 0 0 (MQ below (z_QI G S' M r) ([.ref (gq G (56)), .int (a1)] : List Value).toArray s 0 0 (z_Aq (gq G))) (F0 m 103 ls []) := by
    intro k103 hk103 v4 v5 S H locs ls hf hP hS hl
    unfold b_X3_fits_103 at hf
    refine lv_iload hx hb dX3_fits_103 (lv_at hl 2 rfl) ?_
    refine lv_if_lt (tgt := 129) hx hb dX3_fits_105 (by decide) (fun hc31 => ?_) (fun hc31 => ?_)
    · replace hf := z_ifp hf hc31
      refine lv_aload_n hx hb dX3_fits_129 rfl (lv_at hl 0 rfl) ?_
      refine lv_dup hx hb dX3_fits_130 rfl ?_
      refine x_getI (C := RX3) (T := TX3) (N := 8) (ci := 3) (k := 6) (o := 56) E hK hP iwX3 rfl rfl (by decide) (by decide) rfl rfl (by decide) tw278 dX3_fits_131 ?_
      refine lv_iconst (v := 1) hx hb dX3_fits_134 (by decide) ?_
      refine lv_iadd hx hb dX3_fits_135 ?_
      refine x_putI (C := RX3) (T := TX3) (N := 8) (ci := 3) (k := 6) (o := 56) (v := ((S 56 6) + 1)) (ty := .int) E hK hq hP hS iwX3 tyX3 tyX3_ok nmX3 rfl rfl (by decide) (by decide) rfl rfl (by decide) rfl (tyX3_ok 6 (by decide)) ⟨rfl, rfl⟩ tw278 dX3_fits_136 (fun H locs hP hS => ?_)
      obtain ⟨S32, hf, hP⟩ := z_ltX hf hP
      refine lv_iconst (v := 1) hx hb dX3_fits_139 (by decide) ?_
      exact x_retz hx hb hr hlk rfl hf hP hS dX3_fits_140
    · replace hf := z_ifn hf hc31
      refine lv_aload_n hx hb dX3_fits_108 rfl (lv_at hl 0 rfl) ?_
      refine lv_aload_n hx hb dX3_fits_109 rfl (lv_at hl 0 rfl) ?_
      refine x_getI (C := RX3) (T := TX3) (N := 8) (ci := 3) (k := 6) (o := 56) E hK hP iwX3 rfl rfl (by decide) (by decide) rfl rfl (by decide) tw278 dX3_fits_110 ?_
      refine lv_aload hx hb dX3_fits_113 (lv_at hl 1 rfl) ?_
      refine lv_iload hx hb dX3_fits_115 (lv_at hl 2 rfl) ?_
      obtain ⟨r34, S33, hz35, hf⟩ := z_bd_some hf
      refine z_ci (z_runVS E hK hP hS (c_J0_charAt_5068e hq hz35) cv_J0_charAt_5068e tw399 rfl ⟨Nat.le_of_ble_eq_true rfl, Nat.le_of_ble_eq_true rfl⟩ ⟨Nat.le_refl 0, Nat.le_refl 0⟩ hl.1 (Nat.le_of_ble_eq_true rfl) rfl dX3_fits_117) hS (fun H locs hP hS => ?_)
      obtain ⟨S36, hz37, hf⟩ := z_bv_some hf
      refine z_cvo (z_runV (o := 56) (ci := 3) E hK hP hS (c_X3_await hq hz37) cv_X3_await tw357 rfl (by decide) rfl rfl ⟨Nat.le_of_ble_eq_true rfl, Nat.le_of_ble_eq_true rfl⟩ ⟨Nat.le_refl 0, Nat.le_refl 0⟩ hl.1 (Nat.le_of_ble_eq_true rfl) rfl dX3_fits_120) hS (fun H locs hP hS => ?_)
      refine lv_iinc (v := (v5 + (-1))) (lv' := [(5, .int ((v5 + (-1)))), (0, .ref (gq G (56))), (4, .ref (G.2.2.2.1 (v4)))]) hx hb dX3_fits_123 hl (k := 2) rfl rfl (by decide) rfl (fun ls hl => ?_)
      refine lv_goto (tgt := 103) hx hb dX3_fits_126 (by decide) ?_
      exact hk103 (v4) ((v5 + (-1))) S36 _ _ _ hf hP hS (lv_sub hl [1, 2, 0] rfl)
  have hL103 : ∀ (n : Nat), ∀ (v4 : Nat) (v5 : Int32) (S : St) (H : Heap) (locs : List Loc) (ls : Array Slot), f_X3_fits_103 N n v4 v5 S = some (r, S') → z_P G S M H → z_S G s.heap H locs → lv_has ls 6 [(0, .ref (gq G (56))), (4, .ref (G.2.2.2.1 (v4))), (5, .int (v5))] → W p l e (z_rm 4 85) s m ([.ref (gq G (56)), .int (a1)] : List Value).toArray below meth c H locs 0 0 (MQ below (z_QI G S' M r) ([.ref (gq G (56)), .int (a1)] : List Value).toArray s 0 0 (z_Aq (gq G))) (F0 m 103 ls []) := by
    intro  n
    induction n with
    | zero => intro _ _ _ _ _ _ hf; cases hf
    | succ n ih => exact hB103  _  ih
  have hl : lv_has ls 6 [(0, .ref (gq G (56))), (1, .int (a1))] := hl
  unfold f_X3_fits at hf
  refine lv_aload_n hx hb dX3_fits_0 rfl (lv_at hl 0 rfl) ?_
  refine x_getI (C := RX3) (T := TX3) (N := 8) (ci := 3) (k := 5) (o := 56) E hK hP iwX3 rfl rfl (by decide) (by decide) rfl rfl (by decide) tw277 dX3_fits_1 ?_
  refine lv_if_gt (tgt := 9) hx hb dX3_fits_4 (by decide) (fun hc1 => ?_) (fun hc1 => ?_)
  · replace hf := z_ifp hf hc1
    refine lv_aload_n hx hb dX3_fits_9 rfl (lv_at hl 0 rfl) ?_
    refine lv_dup hx hb dX3_fits_10 rfl ?_
    refine x_getI (C := RX3) (T := TX3) (N := 8) (ci := 3) (k := 5) (o := 56) E hK hP iwX3 rfl rfl (by decide) (by decide) rfl rfl (by decide) tw277 dX3_fits_11 ?_
    refine lv_iconst (v := 1) hx hb dX3_fits_14 (by decide) ?_
    refine lv_isub hx hb dX3_fits_15 ?_
    refine x_putI (C := RX3) (T := TX3) (N := 8) (ci := 3) (k := 5) (o := 56) (v := ((S 56 5) - 1)) (ty := .int) E hK hq hP hS iwX3 tyX3 tyX3_ok nmX3 rfl rfl (by decide) (by decide) rfl rfl (by decide) rfl (tyX3_ok 5 (by decide)) ⟨rfl, rfl⟩ tw277 dX3_fits_16 (fun H locs hP hS => ?_)
    obtain ⟨S2, hf, hP⟩ := z_ltX hf hP
    refine lv_aload_n hx hb dX3_fits_19 rfl (lv_at hl 0 rfl) ?_
    refine z_getR (C := RX3) (T := TX3) (N := 8) (ci := 3) (k := 0) (o := 56) (t := 57) E hK hP iwX3 rfl rfl (by decide) (by decide) rfl rfl rfl tw272 dX3_fits_20 ?_
    refine lv_iload_n hx hb dX3_fits_23 rfl (lv_at hl 1 rfl) ?_
    obtain ⟨r4, S3, hz5, hf⟩ := z_bd_some hf
    refine z_ci (z_runSN (host := RX9) E hK hP hS (c_X9_at hq rfl (by decide) hz5) cs_X9_at (by decide +kernel) rfl ⟨Nat.le_of_ble_eq_true rfl, Nat.le_of_ble_eq_true rfl⟩ ⟨Nat.le_refl 0, Nat.le_refl 0⟩ hl.1 (Nat.le_of_ble_eq_true rfl) rfl dX3_fits_24) hS (fun H locs hP hS => ?_)
    refine lv_istore_n (lv' := [(2, .int (r4)), (0, .ref (gq G (56))), (1, .int (a1))]) hx hb dX3_fits_27 rfl hl (by decide) rfl (fun ls hl => ?_)
    refine lv_aload_n hx hb dX3_fits_28 rfl (lv_at hl 1 rfl) ?_
    refine z_getR (C := RX3) (T := TX3) (N := 8) (ci := 3) (k := 4) (o := 56) (t := 61) E hK hP iwX3 rfl rfl (by decide) (by decide) rfl rfl rfl tw276 dX3_fits_29 ?_
    refine lv_aload_n hx hb dX3_fits_32 rfl (lv_at hl 1 rfl) ?_
    refine x_getI (C := RX3) (T := TX3) (N := 8) (ci := 3) (k := 5) (o := 56) E hK hP iwX3 rfl rfl (by decide) (by decide) rfl rfl (by decide) tw277 dX3_fits_33 ?_
    obtain ⟨r7, S6, hz8, hf⟩ := z_bd_some hf
    refine z_ci (z_runSN (host := RX9) E hK hP hS (c_X9_at hq rfl (by decide) hz8) cs_X9_at (by decide +kernel) rfl ⟨Nat.le_of_ble_eq_true rfl, Nat.le_of_ble_eq_true rfl⟩ ⟨Nat.le_refl 0, Nat.le_refl 0⟩ hl.1 (Nat.le_of_ble_eq_true rfl) rfl dX3_fits_36) hS (fun H locs hP hS => ?_)
    refine lv_istore_n (lv' := [(3, .int (r7)), (2, .int (r4)), (0, .ref (gq G (56))), (1, .int (a1))]) hx hb dX3_fits_39 rfl hl (by decide) rfl (fun ls hl => ?_)
    refine lv_aload_n hx hb dX3_fits_40 rfl (lv_at hl 2 rfl) ?_
    refine z_getR (C := RX3) (T := TX3) (N := 8) (ci := 3) (k := 1) (o := 56) (t := 58) E hK hP iwX3 rfl rfl (by decide) (by decide) rfl rfl rfl tw273 dX3_fits_41 ?_
    refine lv_iload_n hx hb dX3_fits_44 rfl (lv_at hl 3 rfl) ?_
    refine lv_aload_n hx hb dX3_fits_45 rfl (lv_at hl 2 rfl) ?_
    refine z_getR (C := RX3) (T := TX3) (N := 8) (ci := 3) (k := 3) (o := 56) (t := 60) E hK hP iwX3 rfl rfl (by decide) (by decide) rfl rfl rfl tw275 dX3_fits_46 ?_
    refine lv_aload_n hx hb dX3_fits_49 rfl (lv_at hl 2 rfl) ?_
    refine x_getI (C := RX3) (T := TX3) (N := 8) (ci := 3) (k := 5) (o := 56) E hK hP iwX3 rfl rfl (by decide) (by decide) rfl rfl (by decide) tw277 dX3_fits_50 ?_
    obtain ⟨r10, S9, hz11, hf⟩ := z_bd_some hf
    refine z_ci (z_runSN (host := RX9) E hK hP hS (c_X9_at hq rfl (by decide) hz11) cs_X9_at (by decide +kernel) rfl ⟨Nat.le_of_ble_eq_true rfl, Nat.le_of_ble_eq_true rfl⟩ ⟨Nat.le_refl 0, Nat.le_refl 0⟩ hl.1 (Nat.le_of_ble_eq_true rfl) rfl dX3_fits_53) hS (fun H locs hP hS => ?_)
    obtain ⟨S12, hz13, hf⟩ := z_bv_some hf
    refine z_cvo (z_runSN (host := RX9) E hK hP hS (c_X9_put hq rfl (by decide) hz13) cs_X9_put (by decide +kernel) rfl ⟨Nat.le_of_ble_eq_true rfl, Nat.le_of_ble_eq_true rfl⟩ ⟨Nat.le_refl 0, Nat.le_refl 0⟩ hl.1 (Nat.le_of_ble_eq_true rfl) rfl dX3_fits_56) hS (fun H locs hP hS => ?_)
    refine lv_aload_n hx hb dX3_fits_59 rfl (lv_at hl 2 rfl) ?_
    refine z_getR (C := RX3) (T := TX3) (N := 8) (ci := 3) (k := 2) (o := 56) (t := 59) E hK hP iwX3 rfl rfl (by decide) (by decide) rfl rfl rfl tw274 dX3_fits_60 ?_
    refine lv_iload_n hx hb dX3_fits_63 rfl (lv_at hl 3 rfl) ?_
    refine lv_iload_n hx hb dX3_fits_64 rfl (lv_at hl 0 rfl) ?_
    obtain ⟨S14, hz15, hf⟩ := z_bv_some hf
    refine z_cvo (z_runSN (host := RX9) E hK hP hS (c_X9_put hq rfl (by decide) hz15) cs_X9_put (by decide +kernel) rfl ⟨Nat.le_of_ble_eq_true rfl, Nat.le_of_ble_eq_true rfl⟩ ⟨Nat.le_refl 0, Nat.le_refl 0⟩ hl.1 (Nat.le_of_ble_eq_true rfl) rfl dX3_fits_65) hS (fun H locs hP hS => ?_)
    refine lv_iload_n hx hb dX3_fits_68 rfl (lv_at hl 0 rfl) ?_
    refine lv_bipush (v := 118) hx hb dX3_fits_69 (by decide) ?_
    refine lv_icmp_ne (tgt := 79) hx hb dX3_fits_71 (by decide) (fun hc16 => ?_) (fun hc16 => ?_)
    · replace hf := z_ifn hf hc16
      refine lv_iload_n hx hb dX3_fits_79 rfl (lv_at hl 1 rfl) ?_
      obtain ⟨r18, S17, hz19, hf⟩ := z_bd_some hf
      refine z_ci (z_runS E hK hP hS (c_X3_isSign hq hz19) cs_X3_isSign tw369 rfl ⟨Nat.le_of_ble_eq_true rfl, Nat.le_of_ble_eq_true rfl⟩ ⟨Nat.le_refl 0, Nat.le_refl 0⟩ hl.1 (Nat.le_of_ble_eq_true rfl) rfl dX3_fits_80) hS (fun H locs hP hS => ?_)
      refine lv_if_ne (tgt := 88) hx hb dX3_fits_83 (by decide) (fun hc20 => ?_) (fun hc20 => ?_)
      · replace hf := z_ifn hf hc20
        refine lv_iload_n hx hb dX3_fits_88 rfl (lv_at hl 1 rfl) ?_
        obtain ⟨r22, S21, hz23, hf⟩ := z_bd_some hf
        refine z_cr (z_runS E hK hP hS (c_X3_partsOf hq hz23) cs_X3_partsOf tw375 rfl ⟨Nat.le_of_ble_eq_true rfl, Nat.le_of_ble_eq_true rfl⟩ ⟨Nat.le_refl 0, Nat.le_refl 0⟩ hl.1 (Nat.le_of_ble_eq_true rfl) rfl dX3_fits_89) hS (fun H locs hP hS => ?_)
        refine lv_astore (lv' := [(4, .ref (G.2.2.2.1 (r22))), (3, .int (r7)), (2, .int (r4)), (0, .ref (gq G (56))), (1, .int (a1))]) hx hb dX3_fits_92 hl (by decide) rfl (fun ls hl => ?_)
        refine lv_aload hx hb dX3_fits_94 (lv_at hl 0 rfl) ?_
        obtain ⟨r25, S24, hz26, hf⟩ := z_bd_some hf
        refine z_ci (z_runVS E hK hP hS (c_J0_length_8abf5 hq hz26) cv_J0_length_8abf5 tw389 rfl ⟨Nat.le_of_ble_eq_true rfl, Nat.le_of_ble_eq_true rfl⟩ ⟨Nat.le_refl 0, Nat.le_refl 0⟩ hl.1 (Nat.le_of_ble_eq_true rfl) rfl dX3_fits_96) hS (fun H locs hP hS => ?_)
        refine lv_iconst (v := 1) hx hb dX3_fits_99 (by decide) ?_
        refine lv_isub hx hb dX3_fits_100 ?_
        refine lv_istore (lv' := [(5, .int ((r25 - 1))), (4, .ref (G.2.2.2.1 (r22))), (3, .int (r7)), (2, .int (r4)), (0, .ref (gq G (56))), (1, .int (a1))]) hx hb dX3_fits_101 hl (by decide) rfl (fun ls hl => ?_)
        exact hL103 N (r22) ((r25 - 1)) S24 _ _ _ hf hP hS (lv_sub hl [4, 1, 0] rfl)
      · replace hf := z_ifp hf hc20
        refine lv_iconst (v := 0) hx hb dX3_fits_86 (by decide) ?_
        exact x_retz hx hb hr hlk rfl hf hP hS dX3_fits_87
    · replace hf := z_ifp hf hc16
      refine lv_iload_n hx hb dX3_fits_74 rfl (lv_at hl 1 rfl) ?_
      obtain ⟨r28, S27, hz29, hf⟩ := z_bd_some hf
      refine z_ci (z_runS E hK hP hS (c_X3_isName hq hz29) cs_X3_isName tw366 rfl ⟨Nat.le_of_ble_eq_true rfl, Nat.le_of_ble_eq_true rfl⟩ ⟨Nat.le_refl 0, Nat.le_refl 0⟩ hl.1 (Nat.le_of_ble_eq_true rfl) rfl dX3_fits_75) hS (fun H locs hP hS => ?_)
      obtain ⟨hg30, hf⟩ := z_gd_some hf
      exact x_retz hx hb hr hlk (z_bz hg30).1 hf hP hS dX3_fits_78
  · replace hf := z_ifn hf hc1
    refine lv_iconst (v := 0) hx hb dX3_fits_7 (by decide) ?_
    exact x_retz hx hb hr hlk rfl hf hP hS dX3_fits_8
theorem cv_X3_fits : z_cv yX3_fits cX3_fits 6 (some .boolean) RX3 1 := ⟨⟨tw363, twp2⟩, tw364, tw10, by decide +kernel⟩
def f_X3_isSite (N : Nat) (a1 : Int32) (S : St) : Option (Int32 × St) := if a1 = 112 then (some (1, S)) else (if a1 = 113 then (some (1, S)) else (some (0, S)))
set_option maxHeartbeats 4000000 in
set_option maxRecDepth 100000 in
theorem c_X3_isSite {l : Launch} {G : Cx} {M S S' : St} {N : Nat} {a1 : Int32} {r : Int32} (hq : z_inj (gq G)) (hf : f_X3_isSite N a1 S = some (r, S')) : z_Ct l yX3_isSite cX3_isSite 1 (some .boolean) 0 0 G S M [.int (a1)] (z_QI G S' M r) := by
  refine z_start (by decide +kernel) (Nat.le_of_ble_eq_true rfl) ?_
  intro p e s m below meth c ls E hr hlk hK hP hS hl
  have E : CallFix p m c cX3_isSite 1 s _ lw_good RX3 := E
  have hx := E.1
  have hb := E.2.1
  have hown := E.2.2.2.1
  have hts := E.2.2.2.2
  have hl : lv_has ls 1 [(0, .int (a1))] := hl
  unfold f_X3_isSite at hf
  refine lv_iload_n hx hb dX3_isSite_0 rfl (lv_at hl 0 rfl) ?_
  refine lv_bipush (v := 112) hx hb dX3_isSite_1 (by decide) ?_
  refine lv_icmp_eq (tgt := 12) hx hb dX3_isSite_3 (by decide) (fun hc1 => ?_) (fun hc1 => ?_)
  · replace hf := z_ifp hf hc1
    refine lv_iconst (v := 1) hx hb dX3_isSite_12 (by decide) ?_
    refine lv_goto (tgt := 17) hx hb dX3_isSite_13 (by decide) ?_
    exact x_retz hx hb hr hlk rfl hf hP hS dX3_isSite_17
  · replace hf := z_ifn hf hc1
    refine lv_iload_n hx hb dX3_isSite_6 rfl (lv_at hl 0 rfl) ?_
    refine lv_bipush (v := 113) hx hb dX3_isSite_7 (by decide) ?_
    refine lv_icmp_ne (tgt := 16) hx hb dX3_isSite_9 (by decide) (fun hc2 => ?_) (fun hc2 => ?_)
    · replace hf := z_ifn hf hc2
      refine lv_iconst (v := 0) hx hb dX3_isSite_16 (by decide) ?_
      exact x_retz hx hb hr hlk rfl hf hP hS dX3_isSite_17
    · replace hf := z_ifp hf hc2
      refine lv_iconst (v := 1) hx hb dX3_isSite_12 (by decide) ?_
      refine lv_goto (tgt := 17) hx hb dX3_isSite_13 (by decide) ?_
      exact x_retz hx hb hr hlk rfl hf hP hS dX3_isSite_17
theorem cs_X3_isSite : z_cs yX3_isSite cX3_isSite 1 (some .boolean) 1 := ⟨tw442, tw443, tw10, by decide +kernel⟩
def b_X3_placeBeyondLimits_69 (N : Nat) (k6 : Int32 → Int32 → Int32 → St → Option (Int32 × St)) (v1 : Int32) (v2 : Int32) (v3 : Int32) (S : St) : Option (Int32 × St) := k6 (v1) (v2) ((v3 + 1)) S
def b_X3_placeBeyondLimits_53 (N : Nat) (k6 : Int32 → Int32 → Int32 → St → Option (Int32 × St)) (v1 : Int32) (v3 : Int32) (t0 : Int32) (t1 : Int32) (S : St) : Option (Int32 × St) := if 40 < v1 then (some (v3, S)) else (if (t1 + t0) ≤ 10 then (b_X3_placeBeyondLimits_69 N k6 (v1) ((t1 + t0)) (v3) S) else (some (v3, S)))
def b_X3_placeBeyondLimits_6 (N : Nat) (k6 : Int32 → Int32 → Int32 → St → Option (Int32 × St)) (v1 : Int32) (v2 : Int32) (v3 : Int32) (S : St) : Option (Int32 × St) := if (S 56 7) ≤ v3 then (some ((-1), S)) else (z_bd (f_X9_at N (59) (v3) S) fun r3 S2 => if r3 = 118 then (b_X3_placeBeyondLimits_69 N k6 (v1) (v2) (v3) S2) else (z_bd (f_X9_at N (57) (v3) S2) fun r7 S6 => z_bd (f_X3_isSite N (r7) S6) fun r10 S9 => if r10 = 0 then (b_X3_placeBeyondLimits_53 N k6 ((v1 + 1)) (v3) (0) (v2) S9) else (b_X3_placeBeyondLimits_53 N k6 ((v1 + 1)) (v3) (1) (v2) S9)))
def f_X3_placeBeyondLimits_6 (N : Nat) : Nat → Int32 → Int32 → Int32 → St → Option (Int32 × St)
  | 0 => fun _ _ _ _ => none
  | n + 1 => b_X3_placeBeyondLimits_6 N (f_X3_placeBeyondLimits_6 N n)
def f_X3_placeBeyondLimits (N : Nat) (S : St) : Option (Int32 × St) := f_X3_placeBeyondLimits_6 N N (0) (0) (0) S
set_option maxHeartbeats 4000000 in
set_option maxRecDepth 100000 in
theorem c_X3_placeBeyondLimits {l : Launch} {G : Cx} {M S S' : St} {N : Nat} {r : Int32} (hq : z_inj (gq G)) (hf : f_X3_placeBeyondLimits N S = some (r, S')) : z_Ct l yX3_placeBeyondLimits cX3_placeBeyondLimits 4 (some .int) 1 21 G S M [.ref (gq G (56))] (z_QI G S' M r) := by
  refine z_start (by decide +kernel) (Nat.le_of_ble_eq_true rfl) ?_
  intro p e s m below meth c ls E hr hlk hK hP hS hl
  have E : CallFix p m c cX3_placeBeyondLimits 4 s _ lw_good RX3 := E
  have hx := E.1
  have hb := E.2.1
  have hown := E.2.2.2.1
  have hts := E.2.2.2.2
  have hJ69 : ∀ (k6 : Int32 → Int32 → Int32 → St → Option (Int32 × St)) (hk6 : ∀ (v1 : Int32) (v2 : Int32) (v3 : Int32) (S : St) (H : Heap) (locs : List Loc) (ls : Array Slot), k6 v1 v2 v3 S = some (r, S') → z_P G S M H → z_S G s.heap H locs → lv_has ls 4 [(0, .ref (gq G (56))), (1, .int (v1)), (2, .int (v2)), (3, .int (v3))] → W p l e (z_rm 1 21) s m ([.ref (gq G (56))] : List Value).toArray below meth c H locs 0 0 (MQ below (z_QI G S' M r) ([.ref (gq G (56))] : List Value).toArray s 0 0 (z_Aq (gq G))) (F0 m 6 ls [])), ∀ (v1 : Int32) (v2 : Int32) (v3 : Int32) (S : St) (H : Heap) (locs : List Loc) (ls : Array Slot), b_X3_placeBeyondLimits_69 N k6 v1 v2 v3 S = some (r, S') → z_P G S M H → z_S G s.heap H locs → lv_has ls 4 [(0, .ref (gq G (56))), (1, .int (v1)), (2, .int (v2)), (3, .int (v3))] → W p l e (z_rm 1 21) s m ([.ref (gq G (56))] : List Value).toArray below meth c H locs 0 0 (MQ below (z_QI G S' M r) ([.ref (gq G (56))] : List Value).toArray s 0 0 (z_Aq (gq G))) (F0 m 69 ls []) := by
    intro k6 hk6 v1 v2 v3 S H locs ls hf hP hS hl
    unfold b_X3_placeBeyondLimits_69 at hf
    refine lv_iinc (v := (v3 + 1)) (lv' := [(3, .int ((v3 + 1))), (0, .ref (gq G (56))), (1, .int (v1)), (2, .int (v2))]) hx hb dX3_placeBeyondLimits_69 hl (k := 3) rfl rfl (by decide) rfl (fun ls hl => ?_)
    refine lv_goto (tgt := 6) hx hb dX3_placeBeyondLimits_72 (by decide) ?_
    exact hk6 (v1) (v2) ((v3 + 1)) S _ _ _ hf hP hS (lv_sub hl [1, 2, 3, 0] rfl)
  have hJ53 : ∀ (k6 : Int32 → Int32 → Int32 → St → Option (Int32 × St)) (hk6 : ∀ (v1 : Int32) (v2 : Int32) (v3 : Int32) (S : St) (H : Heap) (locs : List Loc) (ls : Array Slot), k6 v1 v2 v3 S = some (r, S') → z_P G S M H → z_S G s.heap H locs → lv_has ls 4 [(0, .ref (gq G (56))), (1, .int (v1)), (2, .int (v2)), (3, .int (v3))] → W p l e (z_rm 1 21) s m ([.ref (gq G (56))] : List Value).toArray below meth c H locs 0 0 (MQ below (z_QI G S' M r) ([.ref (gq G (56))] : List Value).toArray s 0 0 (z_Aq (gq G))) (F0 m 6 ls [])), ∀ (v1 : Int32) (v3 : Int32) (t0 : Int32) (t1 : Int32) (S : St) (H : Heap) (locs : List Loc) (ls : Array Slot), b_X3_placeBeyondLimits_53 N k6 v1 v3 t0 t1 S = some (r, S') → z_P G S M H → z_S G s.heap H locs → lv_has ls 4 [(0, .ref (gq G (56))), (1, .int (v1)), (3, .int (v3))] → W p l e (z_rm 1 21) s m ([.ref (gq G (56))] : List Value).toArray below meth c H locs 0 0 (MQ below (z_QI G S' M r) ([.ref (gq G (56))] : List Value).toArray s 0 0 (z_Aq (gq G))) (F0 m 53 ls [.int (t0), .int (t1)]) := by
    intro k6 hk6 v1 v3 t0 t1 S H locs ls hf hP hS hl
    unfold b_X3_placeBeyondLimits_53 at hf
    refine lv_iadd hx hb dX3_placeBeyondLimits_53 ?_
    refine lv_istore_n (lv' := [(2, .int ((t1 + t0))), (0, .ref (gq G (56))), (1, .int (v1)), (3, .int (v3))]) hx hb dX3_placeBeyondLimits_54 rfl hl (by decide) rfl (fun ls hl => ?_)
    refine lv_iload_n hx hb dX3_placeBeyondLimits_55 rfl (lv_at hl 2 rfl) ?_
    refine lv_bipush (v := 40) hx hb dX3_placeBeyondLimits_56 (by decide) ?_
    refine lv_icmp_gt (tgt := 67) hx hb dX3_placeBeyondLimits_58 (by decide) (fun hc13 => ?_) (fun hc13 => ?_)
    · replace hf := z_ifp hf hc13
      refine lv_iload_n hx hb dX3_placeBeyondLimits_67 rfl (lv_at hl 3 rfl) ?_
      exact x_reti hx hb hr hlk hf hP hS dX3_placeBeyondLimits_68
    · replace hf := z_ifn hf hc13
      refine lv_iload_n hx hb dX3_placeBeyondLimits_61 rfl (lv_at hl 0 rfl) ?_
      refine lv_bipush (v := 10) hx hb dX3_placeBeyondLimits_62 (by decide) ?_
      refine lv_icmp_le (tgt := 69) hx hb dX3_placeBeyondLimits_64 (by decide) (fun hc14 => ?_) (fun hc14 => ?_)
      · replace hf := z_ifp hf hc14
        exact hJ69 k6 hk6 (v1) ((t1 + t0)) (v3) S _ _ _ hf hP hS (lv_sub hl [1, 2, 0, 3] rfl)
      · replace hf := z_ifn hf hc14
        refine lv_iload_n hx hb dX3_placeBeyondLimits_67 rfl (lv_at hl 3 rfl) ?_
        exact x_reti hx hb hr hlk hf hP hS dX3_placeBeyondLimits_68
  have hB6 : ∀ (k6 : Int32 → Int32 → Int32 → St → Option (Int32 × St)) (hk6 : ∀ (v1 : Int32) (v2 : Int32) (v3 : Int32) (S : St) (H : Heap) (locs : List Loc) (ls : Array Slot), k6 v1 v2 v3 S = some (r, S') → z_P G S M H → z_S G s.heap H locs → lv_has ls 4 [(0, .ref (gq G (56))), (1, .int (v1)), (2, .int (v2)), (3, .int (v3))] → W p l e (z_rm 1 21) s m ([.ref (gq G (56))] : List Value).toArray below meth c H locs 0 0 (MQ below (z_QI G S' M r) ([.ref (gq G (56))] : List Value).toArray s 0 0 (z_Aq (gq G))) (F0 m 6 ls [])), ∀ (v1 : Int32) (v2 : Int32) (v3 : Int32) (S : St) (H : Heap) (locs : List Loc) (ls : Array Slot), b_X3_placeBeyondLimits_6 N k6 v1 v2 v3 S = some (r, S') → z_P G S M H → z_S G s.heap H locs → lv_has ls 4 [(0, .ref (gq G (56))), (1, .int (v1)), (2, .int (v2)), (3, .int (v3))] → W p l e (z_rm 1 21) s m ([.ref (gq G (56))] : List Value).toArray below meth c H locs 0 0 (MQ below (z_QI G S' M r) ([.ref (gq G (56))] : List Value).toArray s 0 0 (z_Aq (gq G))) (F0 m 6 ls []) := by
    intro k6 hk6 v1 v2 v3 S H locs ls hf hP hS hl
    unfold b_X3_placeBeyondLimits_6 at hf
    refine lv_iload_n hx hb dX3_placeBeyondLimits_6 rfl (lv_at hl 3 rfl) ?_
    refine lv_aload_n hx hb dX3_placeBeyondLimits_7 rfl (lv_at hl 0 rfl) ?_
    refine x_getI (C := RX3) (T := TX3) (N := 8) (ci := 3) (k := 7) (o := 56) E hK hP iwX3 rfl rfl (by decide) (by decide) rfl rfl (by decide) tw279 dX3_placeBeyondLimits_8 ?_
    refine lv_icmp_ge (tgt := 75) hx hb dX3_placeBeyondLimits_11 (by decide) (fun hc1 => ?_) (fun hc1 => ?_)
    · replace hf := z_ifp hf hc1
      refine lv_iconst (v := (-1)) hx hb dX3_placeBeyondLimits_75 (by decide) ?_
      exact x_reti hx hb hr hlk hf hP hS dX3_placeBeyondLimits_76
    · replace hf := z_ifn hf hc1
      refine lv_aload_n hx hb dX3_placeBeyondLimits_14 rfl (lv_at hl 0 rfl) ?_
      refine z_getR (C := RX3) (T := TX3) (N := 8) (ci := 3) (k := 2) (o := 56) (t := 59) E hK hP iwX3 rfl rfl (by decide) (by decide) rfl rfl rfl tw274 dX3_placeBeyondLimits_15 ?_
      refine lv_iload_n hx hb dX3_placeBeyondLimits_18 rfl (lv_at hl 3 rfl) ?_
      obtain ⟨r3, S2, hz4, hf⟩ := z_bd_some hf
      refine z_ci (z_runSN (host := RX9) E hK hP hS (c_X9_at hq rfl (by decide) hz4) cs_X9_at (by decide +kernel) rfl ⟨Nat.le_of_ble_eq_true rfl, Nat.le_of_ble_eq_true rfl⟩ ⟨Nat.le_refl 0, Nat.le_refl 0⟩ hl.1 (Nat.le_of_ble_eq_true rfl) rfl dX3_placeBeyondLimits_19) hS (fun H locs hP hS => ?_)
      refine lv_bipush (v := 118) hx hb dX3_placeBeyondLimits_22 (by decide) ?_
      refine lv_icmp_ne (tgt := 30) hx hb dX3_placeBeyondLimits_24 (by decide) (fun hc5 => ?_) (fun hc5 => ?_)
      · replace hf := z_ifn hf hc5
        refine lv_iinc (v := (v1 + 1)) (lv' := [(1, .int ((v1 + 1))), (0, .ref (gq G (56))), (2, .int (v2)), (3, .int (v3))]) hx hb dX3_placeBeyondLimits_30 hl (k := 1) rfl rfl (by decide) rfl (fun ls hl => ?_)
        refine lv_iload_n hx hb dX3_placeBeyondLimits_33 rfl (lv_at hl 2 rfl) ?_
        refine lv_aload_n hx hb dX3_placeBeyondLimits_34 rfl (lv_at hl 1 rfl) ?_
        refine z_getR (C := RX3) (T := TX3) (N := 8) (ci := 3) (k := 0) (o := 56) (t := 57) E hK hP iwX3 rfl rfl (by decide) (by decide) rfl rfl rfl tw272 dX3_placeBeyondLimits_35 ?_
        refine lv_iload_n hx hb dX3_placeBeyondLimits_38 rfl (lv_at hl 3 rfl) ?_
        obtain ⟨r7, S6, hz8, hf⟩ := z_bd_some hf
        refine z_ci (z_runSN (host := RX9) E hK hP hS (c_X9_at hq rfl (by decide) hz8) cs_X9_at (by decide +kernel) rfl ⟨Nat.le_of_ble_eq_true rfl, Nat.le_of_ble_eq_true rfl⟩ ⟨Nat.le_refl 0, Nat.le_refl 0⟩ hl.1 (Nat.le_of_ble_eq_true rfl) rfl dX3_placeBeyondLimits_39) hS (fun H locs hP hS => ?_)
        obtain ⟨r10, S9, hz11, hf⟩ := z_bd_some hf
        refine z_ci (z_runS E hK hP hS (c_X3_isSite hq hz11) cs_X3_isSite tw441 rfl ⟨Nat.le_of_ble_eq_true rfl, Nat.le_of_ble_eq_true rfl⟩ ⟨Nat.le_refl 0, Nat.le_refl 0⟩ hl.1 (Nat.le_of_ble_eq_true rfl) rfl dX3_placeBeyondLimits_42) hS (fun H locs hP hS => ?_)
        refine lv_if_eq (tgt := 52) hx hb dX3_placeBeyondLimits_45 (by decide) (fun hc12 => ?_) (fun hc12 => ?_)
        · replace hf := z_ifp hf hc12
          refine lv_iconst (v := 0) hx hb dX3_placeBeyondLimits_52 (by decide) ?_
          exact hJ53 k6 hk6 ((v1 + 1)) (v3) (0) (v2) S9 _ _ _ hf hP hS (lv_sub hl [1, 0, 3] rfl)
        · replace hf := z_ifn hf hc12
          refine lv_iconst (v := 1) hx hb dX3_placeBeyondLimits_48 (by decide) ?_
          refine lv_goto (tgt := 53) hx hb dX3_placeBeyondLimits_49 (by decide) ?_
          exact hJ53 k6 hk6 ((v1 + 1)) (v3) (1) (v2) S9 _ _ _ hf hP hS (lv_sub hl [1, 0, 3] rfl)
      · replace hf := z_ifp hf hc5
        refine lv_goto (tgt := 69) hx hb dX3_placeBeyondLimits_27 (by decide) ?_
        exact hJ69 k6 hk6 (v1) (v2) (v3) S2 _ _ _ hf hP hS (lv_sub hl [0, 1, 2, 3] rfl)
  have hL6 : ∀ (n : Nat), ∀ (v1 : Int32) (v2 : Int32) (v3 : Int32) (S : St) (H : Heap) (locs : List Loc) (ls : Array Slot), f_X3_placeBeyondLimits_6 N n v1 v2 v3 S = some (r, S') → z_P G S M H → z_S G s.heap H locs → lv_has ls 4 [(0, .ref (gq G (56))), (1, .int (v1)), (2, .int (v2)), (3, .int (v3))] → W p l e (z_rm 1 21) s m ([.ref (gq G (56))] : List Value).toArray below meth c H locs 0 0 (MQ below (z_QI G S' M r) ([.ref (gq G (56))] : List Value).toArray s 0 0 (z_Aq (gq G))) (F0 m 6 ls []) := by
    intro  n
    induction n with
    | zero => intro _ _ _ _ _ _ _ hf; cases hf
    | succ n ih => exact hB6  _  ih
  have hl : lv_has ls 4 [(0, .ref (gq G (56)))] := hl
  unfold f_X3_placeBeyondLimits at hf
  refine lv_iconst (v := 0) hx hb dX3_placeBeyondLimits_0 (by decide) ?_
  refine lv_istore_n (lv' := [(1, .int (0)), (0, .ref (gq G (56)))]) hx hb dX3_placeBeyondLimits_1 rfl hl (by decide) rfl (fun ls hl => ?_)
  refine lv_iconst (v := 0) hx hb dX3_placeBeyondLimits_2 (by decide) ?_
  refine lv_istore_n (lv' := [(2, .int (0)), (1, .int (0)), (0, .ref (gq G (56)))]) hx hb dX3_placeBeyondLimits_3 rfl hl (by decide) rfl (fun ls hl => ?_)
  refine lv_iconst (v := 0) hx hb dX3_placeBeyondLimits_4 (by decide) ?_
  refine lv_istore_n (lv' := [(3, .int (0)), (2, .int (0)), (1, .int (0)), (0, .ref (gq G (56)))]) hx hb dX3_placeBeyondLimits_5 rfl hl (by decide) rfl (fun ls hl => ?_)
  exact hL6 N (0) (0) (0) S _ _ _ hf hP hS (lv_sub hl [3, 2, 1, 0] rfl)
theorem cv_X3_placeBeyondLimits : z_cv yX3_placeBeyondLimits cX3_placeBeyondLimits 4 (some .int) RX3 0 := ⟨⟨tw439, twp3⟩, tw440, tw10, by decide +kernel⟩
def b_X3_findFault_19 (N : Nat) (k19 : Int32 → St → Option (Int32 × St)) (v1 : Int32) (S : St) : Option (Int32 × St) := if (S 56 7) ≤ v1 then (if (S 56 5) ≤ 0 then (z_bd (f_X3_placeBeyondLimits N S) fun r8 S7 => if 0 ≤ r8 then (some (((-2000) - r8), S7)) else (some (0, S7))) else (some (((-1000) - (S 56 7)), S))) else (z_bd (f_X3_fits N (v1) S) fun r12 S11 => if r12 = 0 then (some (((-1000) - v1), S11)) else (k19 ((v1 + 1)) S11))
def f_X3_findFault_19 (N : Nat) : Nat → Int32 → St → Option (Int32 × St)
  | 0 => fun _ _ => none
  | n + 1 => b_X3_findFault_19 N (f_X3_findFault_19 N n)
def f_X3_findFault (N : Nat) (S : St) : Option (Int32 × St) := z_lt (z_wr S 56 5 0) fun S1 => z_lt (z_wr S1 56 6 0) fun S2 => z_bv (f_X3_await N ((-1)) (49) S2) fun S3 => f_X3_findFault_19 N N (0) S3
set_option maxHeartbeats 4000000 in
set_option maxRecDepth 100000 in
theorem c_X3_findFault {l : Launch} {G : Cx} {M S S' : St} {N : Nat} {r : Int32} (hq : z_inj (gq G)) (hf : f_X3_findFault N S = some (r, S')) : z_Ct l yX3_findFault cX3_findFault 2 (some .int) 5 110 G S M [.ref (gq G (56))] (z_QI G S' M r) := by
  refine z_start (by decide +kernel) (Nat.le_of_ble_eq_true rfl) ?_
  intro p e s m below meth c ls E hr hlk hK hP hS hl
  have E : CallFix p m c cX3_findFault 2 s _ lw_good RX3 := E
  have hx := E.1
  have hb := E.2.1
  have hown := E.2.2.2.1
  have hts := E.2.2.2.2
  have hB19 : ∀ (k19 : Int32 → St → Option (Int32 × St)) (hk19 : ∀ (v1 : Int32) (S : St) (H : Heap) (locs : List Loc) (ls : Array Slot), k19 v1 S = some (r, S') → z_P G S M H → z_S G s.heap H locs → lv_has ls 2 [(0, .ref (gq G (56))), (1, .int (v1))] → W p l e (z_rm 5 110) s m ([.ref (gq G (56))] : List Value).toArray below meth c H locs 0 0 (MQ below (z_QI G S' M r) ([.ref (gq G (56))] : List Value).toArray s 0 0 (z_Aq (gq G))) (F0 m 19 ls [])), ∀ (v1 : Int32) (S : St) (H : Heap) (locs : List Loc) (ls : Array Slot), b_X3_findFault_19 N k19 v1 S = some (r, S') → z_P G S M H → z_S G s.heap H locs → lv_has ls 2 [(0, .ref (gq G (56))), (1, .int (v1))] → W p l e (z_rm 5 110) s m ([.ref (gq G (56))] : List Value).toArray below meth c H locs 0 0 (MQ below (z_QI G S' M r) ([.ref (gq G (56))] : List Value).toArray s 0 0 (z_Aq (gq G))) (F0 m 19 ls []) := by
    intro k19 hk19 v1 S H locs ls hf hP hS hl
    unfold b_X3_findFault_19 at hf
    refine lv_iload_n hx hb dX3_findFault_19 rfl (lv_at hl 1 rfl) ?_
    refine lv_aload_n hx hb dX3_findFault_20 rfl (lv_at hl 0 rfl) ?_
    refine x_getI (C := RX3) (T := TX3) (N := 8) (ci := 3) (k := 7) (o := 56) E hK hP iwX3 rfl rfl (by decide) (by decide) rfl rfl (by decide) tw279 dX3_findFault_21 ?_
    refine lv_icmp_ge (tgt := 47) hx hb dX3_findFault_24 (by decide) (fun hc5 => ?_) (fun hc5 => ?_)
    · replace hf := z_ifp hf hc5
      refine lv_aload_n hx hb dX3_findFault_47 rfl (lv_at hl 0 rfl) ?_
      refine x_getI (C := RX3) (T := TX3) (N := 8) (ci := 3) (k := 5) (o := 56) E hK hP iwX3 rfl rfl (by decide) (by decide) rfl rfl (by decide) tw277 dX3_findFault_48 ?_
      refine lv_if_le (tgt := 63) hx hb dX3_findFault_51 (by decide) (fun hc6 => ?_) (fun hc6 => ?_)
      · replace hf := z_ifp hf hc6
        refine lv_aload_n hx hb dX3_findFault_63 rfl (lv_at hl 0 rfl) ?_
        obtain ⟨r8, S7, hz9, hf⟩ := z_bd_some hf
        refine z_ci (z_runV (o := 56) (ci := 3) E hK hP hS (c_X3_placeBeyondLimits hq hz9) cv_X3_placeBeyondLimits tw437 rfl (by decide) rfl rfl ⟨Nat.le_of_ble_eq_true rfl, Nat.le_of_ble_eq_true rfl⟩ ⟨Nat.le_refl 0, Nat.le_refl 0⟩ hl.1 (Nat.le_of_ble_eq_true rfl) rfl dX3_findFault_64) hS (fun H locs hP hS => ?_)
        refine lv_istore_n (lv' := [(1, .int (r8)), (0, .ref (gq G (56)))]) hx hb dX3_findFault_67 rfl hl (by decide) rfl (fun ls hl => ?_)
        refine lv_iload_n hx hb dX3_findFault_68 rfl (lv_at hl 0 rfl) ?_
        refine lv_if_ge (tgt := 76) hx hb dX3_findFault_69 (by decide) (fun hc10 => ?_) (fun hc10 => ?_)
        · replace hf := z_ifp hf hc10
          refine lv_sipush (v := (-2000)) hx hb dX3_findFault_76 (by decide) ?_
          refine lv_iload_n hx hb dX3_findFault_79 rfl (lv_at hl 0 rfl) ?_
          refine lv_isub hx hb dX3_findFault_80 ?_
          exact x_reti hx hb hr hlk hf hP hS dX3_findFault_81
        · replace hf := z_ifn hf hc10
          refine lv_iconst (v := 0) hx hb dX3_findFault_72 (by decide) ?_
          refine lv_goto (tgt := 81) hx hb dX3_findFault_73 (by decide) ?_
          exact x_reti hx hb hr hlk hf hP hS dX3_findFault_81
      · replace hf := z_ifn hf hc6
        refine lv_sipush (v := (-1000)) hx hb dX3_findFault_54 (by decide) ?_
        refine lv_aload_n hx hb dX3_findFault_57 rfl (lv_at hl 0 rfl) ?_
        refine x_getI (C := RX3) (T := TX3) (N := 8) (ci := 3) (k := 7) (o := 56) E hK hP iwX3 rfl rfl (by decide) (by decide) rfl rfl (by decide) tw279 dX3_findFault_58 ?_
        refine lv_isub hx hb dX3_findFault_61 ?_
        exact x_reti hx hb hr hlk hf hP hS dX3_findFault_62
    · replace hf := z_ifn hf hc5
      refine lv_aload_n hx hb dX3_findFault_27 rfl (lv_at hl 0 rfl) ?_
      refine lv_iload_n hx hb dX3_findFault_28 rfl (lv_at hl 1 rfl) ?_
      obtain ⟨r12, S11, hz13, hf⟩ := z_bd_some hf
      refine z_ci (z_runV (o := 56) (ci := 3) E hK hP hS (c_X3_fits hq hz13) cv_X3_fits tw361 rfl (by decide) rfl rfl ⟨Nat.le_of_ble_eq_true rfl, Nat.le_of_ble_eq_true rfl⟩ ⟨Nat.le_refl 0, Nat.le_refl 0⟩ hl.1 (Nat.le_of_ble_eq_true rfl) rfl dX3_findFault_29) hS (fun H locs hP hS => ?_)
      refine lv_if_ne (tgt := 41) hx hb dX3_findFault_32 (by decide) (fun hc14 => ?_) (fun hc14 => ?_)
      · replace hf := z_ifn hf hc14
        refine lv_iinc (v := (v1 + 1)) (lv' := [(1, .int ((v1 + 1))), (0, .ref (gq G (56)))]) hx hb dX3_findFault_41 hl (k := 1) rfl rfl (by decide) rfl (fun ls hl => ?_)
        refine lv_goto (tgt := 19) hx hb dX3_findFault_44 (by decide) ?_
        exact hk19 ((v1 + 1)) S11 _ _ _ hf hP hS (lv_sub hl [1, 0] rfl)
      · replace hf := z_ifp hf hc14
        refine lv_sipush (v := (-1000)) hx hb dX3_findFault_35 (by decide) ?_
        refine lv_iload_n hx hb dX3_findFault_38 rfl (lv_at hl 1 rfl) ?_
        refine lv_isub hx hb dX3_findFault_39 ?_
        exact x_reti hx hb hr hlk hf hP hS dX3_findFault_40
  have hL19 : ∀ (n : Nat), ∀ (v1 : Int32) (S : St) (H : Heap) (locs : List Loc) (ls : Array Slot), f_X3_findFault_19 N n v1 S = some (r, S') → z_P G S M H → z_S G s.heap H locs → lv_has ls 2 [(0, .ref (gq G (56))), (1, .int (v1))] → W p l e (z_rm 5 110) s m ([.ref (gq G (56))] : List Value).toArray below meth c H locs 0 0 (MQ below (z_QI G S' M r) ([.ref (gq G (56))] : List Value).toArray s 0 0 (z_Aq (gq G))) (F0 m 19 ls []) := by
    intro  n
    induction n with
    | zero => intro _ _ _ _ _ hf; cases hf
    | succ n ih => exact hB19  _  ih
  have hl : lv_has ls 2 [(0, .ref (gq G (56)))] := hl
  unfold f_X3_findFault at hf
  refine lv_aload_n hx hb dX3_findFault_0 rfl (lv_at hl 0 rfl) ?_
  refine lv_iconst (v := 0) hx hb dX3_findFault_1 (by decide) ?_
  refine x_putI (C := RX3) (T := TX3) (N := 8) (ci := 3) (k := 5) (o := 56) (v := 0) (ty := .int) E hK hq hP hS iwX3 tyX3 tyX3_ok nmX3 rfl rfl (by decide) (by decide) rfl rfl (by decide) rfl (tyX3_ok 5 (by decide)) ⟨rfl, rfl⟩ tw277 dX3_findFault_2 (fun H locs hP hS => ?_)
  obtain ⟨S1, hf, hP⟩ := z_ltX hf hP
  refine lv_aload_n hx hb dX3_findFault_5 rfl (lv_at hl 0 rfl) ?_
  refine lv_iconst (v := 0) hx hb dX3_findFault_6 (by decide) ?_
  refine x_putI (C := RX3) (T := TX3) (N := 8) (ci := 3) (k := 6) (o := 56) (v := 0) (ty := .int) E hK hq hP hS iwX3 tyX3 tyX3_ok nmX3 rfl rfl (by decide) (by decide) rfl rfl (by decide) rfl (tyX3_ok 6 (by decide)) ⟨rfl, rfl⟩ tw278 dX3_findFault_7 (fun H locs hP hS => ?_)
  obtain ⟨S2, hf, hP⟩ := z_ltX hf hP
  refine lv_aload_n hx hb dX3_findFault_10 rfl (lv_at hl 0 rfl) ?_
  refine lv_iconst (v := (-1)) hx hb dX3_findFault_11 (by decide) ?_
  refine lv_bipush (v := 49) hx hb dX3_findFault_12 (by decide) ?_
  obtain ⟨S3, hz4, hf⟩ := z_bv_some hf
  refine z_cvo (z_runV (o := 56) (ci := 3) E hK hP hS (c_X3_await hq hz4) cv_X3_await tw357 rfl (by decide) rfl rfl ⟨Nat.le_of_ble_eq_true rfl, Nat.le_of_ble_eq_true rfl⟩ ⟨Nat.le_refl 0, Nat.le_refl 0⟩ hl.1 (Nat.le_of_ble_eq_true rfl) rfl dX3_findFault_14) hS (fun H locs hP hS => ?_)
  refine lv_iconst (v := 0) hx hb dX3_findFault_17 (by decide) ?_
  refine lv_istore_n (lv' := [(1, .int (0)), (0, .ref (gq G (56)))]) hx hb dX3_findFault_18 rfl hl (by decide) rfl (fun ls hl => ?_)
  exact hL19 N (0) S3 _ _ _ hf hP hS (lv_sub hl [1, 0] rfl)
theorem cv_X3_findFault : z_cv yX3_findFault cX3_findFault 2 (some .int) RX3 0 := ⟨⟨tw354, tw355⟩, tw356, tw10, by decide +kernel⟩
def f_X5_isAtEnd (N : Nat) (o0 : Nat) (a1 : Int32) (S : St) : Option (Int32 × St) := z_bd (f_X9_at N ((z_rfS o0 5)) (a1) S) fun r2 S1 => if r2 = 1 then (some (1, S1)) else (some (0, S1))
set_option maxHeartbeats 4000000 in
set_option maxRecDepth 100000 in
theorem c_X5_isAtEnd {l : Launch} {G : Cx} {M S S' : St} {N : Nat} {o0 : Nat} {a1 : Int32} {r : Int32} (hq : z_inj (gq G)) (hko0 : z_kd o0 = 5) (hxo0 : o0 < 65) (hf : f_X5_isAtEnd N o0 a1 S = some (r, S')) : z_Ct l yX5_isAtEnd cX5_isAtEnd 2 (some .boolean) 1 21 G S M [.ref (gq G (o0)), .int (a1)] (z_QI G S' M r) := by
  refine z_start (by decide +kernel) (Nat.le_of_ble_eq_true rfl) ?_
  intro p e s m below meth c ls E hr hlk hK hP hS hl
  have E : CallFix p m c cX5_isAtEnd 2 s _ lw_good RX5 := E
  have hx := E.1
  have hb := E.2.1
  have hown := E.2.2.2.1
  have hts := E.2.2.2.2
  have hl : lv_has ls 2 [(0, .ref (gq G (o0))), (1, .int (a1))] := hl
  unfold f_X5_isAtEnd at hf
  refine lv_aload_n hx hb dX5_isAtEnd_0 rfl (lv_at hl 0 rfl) ?_
  refine z_getR (C := RX5) (T := TX5) (N := 8) (ci := 5) (k := 5) (o := o0) (t := (z_rfS o0 5)) E hK hP iwX5 rfl rfl (by decide) (by decide) rfl hko0 (z_rf_S (by rw [hko0]; decide)) tw44 dX5_isAtEnd_1 ?_
  refine lv_iload_n hx hb dX5_isAtEnd_4 rfl (lv_at hl 1 rfl) ?_
  obtain ⟨r2, S1, hz3, hf⟩ := z_bd_some hf
  refine z_ci (z_runSN (host := RX9) E hK hP hS (c_X9_at hq (z_rk5_5 hko0) (z_rl5_5 hko0) hz3) cs_X9_at (by decide +kernel) rfl ⟨Nat.le_of_ble_eq_true rfl, Nat.le_of_ble_eq_true rfl⟩ ⟨Nat.le_refl 0, Nat.le_refl 0⟩ hl.1 (Nat.le_of_ble_eq_true rfl) rfl dX5_isAtEnd_5) hS (fun H locs hP hS => ?_)
  refine lv_iconst (v := 1) hx hb dX5_isAtEnd_8 (by decide) ?_
  refine lv_icmp_ne (tgt := 16) hx hb dX5_isAtEnd_9 (by decide) (fun hc4 => ?_) (fun hc4 => ?_)
  · replace hf := z_ifn hf hc4
    refine lv_iconst (v := 0) hx hb dX5_isAtEnd_16 (by decide) ?_
    exact x_retz hx hb hr hlk rfl hf hP hS dX5_isAtEnd_17
  · replace hf := z_ifp hf hc4
    refine lv_iconst (v := 1) hx hb dX5_isAtEnd_12 (by decide) ?_
    refine lv_goto (tgt := 17) hx hb dX5_isAtEnd_13 (by decide) ?_
    exact x_retz hx hb hr hlk rfl hf hP hS dX5_isAtEnd_17
theorem cv_X5_isAtEnd : z_cv yX5_isAtEnd cX5_isAtEnd 2 (some .boolean) RX5 1 := ⟨⟨tw471, tw472⟩, tw473, tw3, by decide +kernel⟩
def f_X5_signOf (N : Nat) (o0 : Nat) (a1 : Int32) (S : St) : Option (Int32 × St) := z_bd (f_X9_at N ((z_rfS o0 0)) (a1) S) fun r2 S1 => some (r2, S1)
set_option maxHeartbeats 4000000 in
set_option maxRecDepth 100000 in
theorem c_X5_signOf {l : Launch} {G : Cx} {M S S' : St} {N : Nat} {o0 : Nat} {a1 : Int32} {r : Int32} (hq : z_inj (gq G)) (hko0 : z_kd o0 = 5) (hxo0 : o0 < 65) (hf : f_X5_signOf N o0 a1 S = some (r, S')) : z_Ct l yX5_signOf cX5_signOf 2 (some .int) 1 21 G S M [.ref (gq G (o0)), .int (a1)] (z_QI G S' M r) := by
  refine z_start (by decide +kernel) (Nat.le_of_ble_eq_true rfl) ?_
  intro p e s m below meth c ls E hr hlk hK hP hS hl
  have E : CallFix p m c cX5_signOf 2 s _ lw_good RX5 := E
  have hx := E.1
  have hb := E.2.1
  have hown := E.2.2.2.1
  have hts := E.2.2.2.2
  have hl : lv_has ls 2 [(0, .ref (gq G (o0))), (1, .int (a1))] := hl
  unfold f_X5_signOf at hf
  refine lv_aload_n hx hb dX5_signOf_0 rfl (lv_at hl 0 rfl) ?_
  refine z_getR (C := RX5) (T := TX5) (N := 8) (ci := 5) (k := 0) (o := o0) (t := (z_rfS o0 0)) E hK hP iwX5 rfl rfl (by decide) (by decide) rfl hko0 (z_rf_S (by rw [hko0]; decide)) tw39 dX5_signOf_1 ?_
  refine lv_iload_n hx hb dX5_signOf_4 rfl (lv_at hl 1 rfl) ?_
  obtain ⟨r2, S1, hz3, hf⟩ := z_bd_some hf
  refine z_ci (z_runSN (host := RX9) E hK hP hS (c_X9_at hq (z_rk5_0 hko0) (z_rl5_0 hko0) hz3) cs_X9_at (by decide +kernel) rfl ⟨Nat.le_of_ble_eq_true rfl, Nat.le_of_ble_eq_true rfl⟩ ⟨Nat.le_refl 0, Nat.le_refl 0⟩ hl.1 (Nat.le_of_ble_eq_true rfl) rfl dX5_signOf_5) hS (fun H locs hP hS => ?_)
  exact x_reti hx hb hr hlk hf hP hS dX5_signOf_8
theorem cv_X5_signOf : z_cv yX5_signOf cX5_signOf 2 (some .int) RX5 1 := ⟨⟨tw466, tw467⟩, tw468, tw3, by decide +kernel⟩
def b_X5_comesToEnd_82 (N : Nat) (o0 : Nat) (v1 : Int32) (v2 : Int32) (S : St) : Option (Int32 × St) := if v2 = 50 then (z_bd (f_X5_isAtEnd N (o0) (v1) S) fun r17 S16 => if r17 = 0 then (some (0, S16)) else (some (1, S16))) else (some (0, S))
def f_X5_comesToEnd (N : Nat) (o0 : Nat) (a1 : Int32) (a2 : Int32) (S : St) : Option (Int32 × St) := if 0 ≤ a1 then (z_bd (f_X5_signOf N (o0) (a1) S) fun r3 S2 => if r3 = 44 then (b_X5_comesToEnd_82 N o0 (a1) (a2) S2) else (if r3 = 63 then (if a2 = 49 then (some (0, S2)) else (z_bd (f_X5_isAtEnd N (o0) (a1) S2) fun r9 S8 => if r9 = 0 then (some (0, S8)) else (some (1, S8)))) else (if r3 = 70 then (some (1, S2)) else (if r3 = 76 then (b_X5_comesToEnd_82 N o0 (a1) (a2) S2) else (if r3 = 89 then (b_X5_comesToEnd_82 N o0 (a1) (a2) S2) else (some (0, S2))))))) else (some (0, S))
set_option maxHeartbeats 4000000 in
set_option maxRecDepth 100000 in
theorem c_X5_comesToEnd {l : Launch} {G : Cx} {M S S' : St} {N : Nat} {o0 : Nat} {a1 : Int32} {a2 : Int32} {r : Int32} (hq : z_inj (gq G)) (hko0 : z_kd o0 = 5) (hxo0 : o0 < 65) (hf : f_X5_comesToEnd N o0 a1 a2 S = some (r, S')) : z_Ct l yX5_comesToEnd cX5_comesToEnd 3 (some .boolean) 2 42 G S M [.ref (gq G (o0)), .int (a1), .int (a2)] (z_QI G S' M r) := by
  refine z_start (by decide +kernel) (Nat.le_of_ble_eq_true rfl) ?_
  intro p e s m below meth c ls E hr hlk hK hP hS hl
  have E : CallFix p m c cX5_comesToEnd 3 s _ lw_good RX5 := E
  have hx := E.1
  have hb := E.2.1
  have hown := E.2.2.2.1
  have hts := E.2.2.2.2
  have hJ82 : ∀ (v1 : Int32) (v2 : Int32) (S : St) (H : Heap) (locs : List Loc) (ls : Array Slot), b_X5_comesToEnd_82 N o0 v1 v2 S = some (r, S') → z_P G S M H → z_S G s.heap H locs → lv_has ls 3 [(0, .ref (gq G (o0))), (1, .int (v1)), (2, .int (v2))] → W p l e (z_rm 2 42) s m ([.ref (gq G (o0)), .int (a1), .int (a2)] : List Value).toArray below meth c H locs 0 0 (MQ below (z_QI G S' M r) ([.ref (gq G (o0)), .int (a1), .int (a2)] : List Value).toArray s 0 0 (z_Aq (gq G))) (F0 m 82 ls []) := by
    intro v1 v2 S H locs ls hf hP hS hl
    unfold b_X5_comesToEnd_82 at hf
    refine lv_iload_n hx hb dX5_comesToEnd_82 rfl (lv_at hl 2 rfl) ?_
    refine lv_bipush (v := 50) hx hb dX5_comesToEnd_83 (by decide) ?_
    refine lv_icmp_ne (tgt := 100) hx hb dX5_comesToEnd_85 (by decide) (fun hc15 => ?_) (fun hc15 => ?_)
    · replace hf := z_ifn hf hc15
      refine lv_iconst (v := 0) hx hb dX5_comesToEnd_100 (by decide) ?_
      exact x_retz hx hb hr hlk rfl hf hP hS dX5_comesToEnd_101
    · replace hf := z_ifp hf hc15
      refine lv_aload_n hx hb dX5_comesToEnd_88 rfl (lv_at hl 0 rfl) ?_
      refine lv_iload_n hx hb dX5_comesToEnd_89 rfl (lv_at hl 1 rfl) ?_
      obtain ⟨r17, S16, hz18, hf⟩ := z_bd_some hf
      refine z_ci (z_runV (o := o0) (ci := 5) E hK hP hS (c_X5_isAtEnd hq hko0 hxo0 hz18) cv_X5_isAtEnd tw470 hko0 (by decide) rfl rfl ⟨Nat.le_of_ble_eq_true rfl, Nat.le_of_ble_eq_true rfl⟩ ⟨Nat.le_refl 0, Nat.le_refl 0⟩ hl.1 (Nat.le_of_ble_eq_true rfl) rfl dX5_comesToEnd_90) hS (fun H locs hP hS => ?_)
      refine lv_if_eq (tgt := 100) hx hb dX5_comesToEnd_93 (by decide) (fun hc19 => ?_) (fun hc19 => ?_)
      · replace hf := z_ifp hf hc19
        refine lv_iconst (v := 0) hx hb dX5_comesToEnd_100 (by decide) ?_
        exact x_retz hx hb hr hlk rfl hf hP hS dX5_comesToEnd_101
      · replace hf := z_ifn hf hc19
        refine lv_iconst (v := 1) hx hb dX5_comesToEnd_96 (by decide) ?_
        refine lv_goto (tgt := 101) hx hb dX5_comesToEnd_97 (by decide) ?_
        exact x_retz hx hb hr hlk rfl hf hP hS dX5_comesToEnd_101
  have hl : lv_has ls 3 [(0, .ref (gq G (o0))), (1, .int (a1)), (2, .int (a2))] := hl
  unfold f_X5_comesToEnd at hf
  refine lv_iload_n hx hb dX5_comesToEnd_0 rfl (lv_at hl 1 rfl) ?_
  refine lv_if_ge (tgt := 6) hx hb dX5_comesToEnd_1 (by decide) (fun hc1 => ?_) (fun hc1 => ?_)
  · replace hf := z_ifp hf hc1
    refine lv_aload_n hx hb dX5_comesToEnd_6 rfl (lv_at hl 0 rfl) ?_
    refine lv_iload_n hx hb dX5_comesToEnd_7 rfl (lv_at hl 1 rfl) ?_
    obtain ⟨r3, S2, hz4, hf⟩ := z_bd_some hf
    refine z_ci (z_runV (o := o0) (ci := 5) E hK hP hS (c_X5_signOf hq hko0 hxo0 hz4) cv_X5_signOf tw465 hko0 (by decide) rfl rfl ⟨Nat.le_of_ble_eq_true rfl, Nat.le_of_ble_eq_true rfl⟩ ⟨Nat.le_refl 0, Nat.le_refl 0⟩ hl.1 (Nat.le_of_ble_eq_true rfl) rfl dX5_comesToEnd_8) hS (fun H locs hP hS => ?_)
    by_cases hc5 : r3 = 44
    · replace hf := z_ifp hf hc5
      refine lv_lookup (off := 71) (tgt := 82) hx hb dX5_comesToEnd_11 (by decide) (by rw [hc5]; decide) (by decide) ?_
      exact hJ82 (a1) (a2) S2 _ _ _ hf hP hS (lv_sub hl [0, 1, 2] rfl)
    · replace hf := z_ifn hf hc5
      by_cases hc6 : r3 = 63
      · replace hf := z_ifp hf hc6
        refine lv_lookup (off := 51) (tgt := 62) hx hb dX5_comesToEnd_11 (by decide) (by rw [hc6]; decide) (by decide) ?_
        refine lv_iload_n hx hb dX5_comesToEnd_62 rfl (lv_at hl 2 rfl) ?_
        refine lv_bipush (v := 49) hx hb dX5_comesToEnd_63 (by decide) ?_
        refine lv_icmp_eq (tgt := 80) hx hb dX5_comesToEnd_65 (by decide) (fun hc7 => ?_) (fun hc7 => ?_)
        · replace hf := z_ifp hf hc7
          refine lv_iconst (v := 0) hx hb dX5_comesToEnd_80 (by decide) ?_
          exact x_retz hx hb hr hlk rfl hf hP hS dX5_comesToEnd_81
        · replace hf := z_ifn hf hc7
          refine lv_aload_n hx hb dX5_comesToEnd_68 rfl (lv_at hl 0 rfl) ?_
          refine lv_iload_n hx hb dX5_comesToEnd_69 rfl (lv_at hl 1 rfl) ?_
          obtain ⟨r9, S8, hz10, hf⟩ := z_bd_some hf
          refine z_ci (z_runV (o := o0) (ci := 5) E hK hP hS (c_X5_isAtEnd hq hko0 hxo0 hz10) cv_X5_isAtEnd tw470 hko0 (by decide) rfl rfl ⟨Nat.le_of_ble_eq_true rfl, Nat.le_of_ble_eq_true rfl⟩ ⟨Nat.le_refl 0, Nat.le_refl 0⟩ hl.1 (Nat.le_of_ble_eq_true rfl) rfl dX5_comesToEnd_70) hS (fun H locs hP hS => ?_)
          refine lv_if_eq (tgt := 80) hx hb dX5_comesToEnd_73 (by decide) (fun hc11 => ?_) (fun hc11 => ?_)
          · replace hf := z_ifp hf hc11
            refine lv_iconst (v := 0) hx hb dX5_comesToEnd_80 (by decide) ?_
            exact x_retz hx hb hr hlk rfl hf hP hS dX5_comesToEnd_81
          · replace hf := z_ifn hf hc11
            refine lv_iconst (v := 1) hx hb dX5_comesToEnd_76 (by decide) ?_
            refine lv_goto (tgt := 81) hx hb dX5_comesToEnd_77 (by decide) ?_
            exact x_retz hx hb hr hlk rfl hf hP hS dX5_comesToEnd_81
      · replace hf := z_ifn hf hc6
        by_cases hc12 : r3 = 70
        · replace hf := z_ifp hf hc12
          refine lv_lookup (off := 49) (tgt := 60) hx hb dX5_comesToEnd_11 (by decide) (by rw [hc12]; decide) (by decide) ?_
          refine lv_iconst (v := 1) hx hb dX5_comesToEnd_60 (by decide) ?_
          exact x_retz hx hb hr hlk rfl hf hP hS dX5_comesToEnd_61
        · replace hf := z_ifn hf hc12
          by_cases hc13 : r3 = 76
          · replace hf := z_ifp hf hc13
            refine lv_lookup (off := 71) (tgt := 82) hx hb dX5_comesToEnd_11 (by decide) (by rw [hc13]; decide) (by decide) ?_
            exact hJ82 (a1) (a2) S2 _ _ _ hf hP hS (lv_sub hl [0, 1, 2] rfl)
          · replace hf := z_ifn hf hc13
            by_cases hc14 : r3 = 89
            · replace hf := z_ifp hf hc14
              refine lv_lookup (off := 71) (tgt := 82) hx hb dX5_comesToEnd_11 (by decide) (by rw [hc14]; decide) (by decide) ?_
              exact hJ82 (a1) (a2) S2 _ _ _ hf hP hS (lv_sub hl [0, 1, 2] rfl)
            · replace hf := z_ifn hf hc14
              refine lv_lookup (off := (91)) (tgt := 102) hx hb dX5_comesToEnd_11 (by decide) (by refine (lv_osw (k := 44) hc5 (by decide)).trans ?_; refine (lv_osw (k := 63) hc6 (by decide)).trans ?_; refine (lv_osw (k := 70) hc12 (by decide)).trans ?_; refine (lv_osw (k := 76) hc13 (by decide)).trans ?_; refine (lv_osw (k := 89) hc14 (by decide)).trans ?_; rfl) (by decide) ?_
              refine lv_iconst (v := 0) hx hb dX5_comesToEnd_102 (by decide) ?_
              exact x_retz hx hb hr hlk rfl hf hP hS dX5_comesToEnd_103
  · replace hf := z_ifn hf hc1
    refine lv_iconst (v := 0) hx hb dX5_comesToEnd_4 (by decide) ?_
    exact x_retz hx hb hr hlk rfl hf hP hS dX5_comesToEnd_5
theorem cv_X5_comesToEnd : z_cv yX5_comesToEnd cX5_comesToEnd 3 (some .boolean) RX5 2 := ⟨⟨tw463, twp4⟩, tw464, tw3, by decide +kernel⟩
def b_X5_add_98 (N : Nat) (o0 : Nat) (v2 : Int32) (v3 : Int32) (v4 : Int32) (S : St) : Option (St) := if v3 = 51 then (z_bv (f_X9_put N ((z_rfS o0 3)) (v2) (v4) S) fun S23 => z_lt (z_wr S23 o0 6 ((S23 o0 6) + 1)) fun S25 => some S25) else (z_lt (z_wr S o0 6 ((S o0 6) + 1)) fun S22 => some S22)
def b_X5_add_82 (N : Nat) (o0 : Nat) (v2 : Int32) (v3 : Int32) (v4 : Int32) (S : St) : Option (St) := if v3 = 50 then (z_bv (f_X9_put N ((z_rfS o0 2)) (v2) (v4) S) fun S19 => b_X5_add_98 N o0 (v2) (v3) (v4) S19) else (b_X5_add_98 N o0 (v2) (v3) (v4) S)
def b_X5_add_49 (N : Nat) (o0 : Nat) (v1 : Int32) (v2 : Int32) (v3 : Int32) (v4 : Int32) (t0 : Int32) (t1 : Int32) (S : St) : Option (St) := z_bv (f_X9_put N ((z_rfS o0 5)) (t1) (t0) S) fun S9 => z_bd (f_X3_isSite N (v1) S9) fun r12 S11 => if r12 = 0 then (b_X5_add_82 N o0 (v2) (v3) (v4) S11) else (z_bv (f_X9_put N ((z_rfS o0 4)) (v4) ((S11 o0 7)) S11) fun S15 => z_lt (z_wr S15 o0 7 ((S15 o0 7) + 1)) fun S17 => b_X5_add_82 N o0 (v2) (v3) (v4) S17)
def f_X5_add (N : Nat) (o0 : Nat) (a1 : Int32) (a2 : Int32) (a3 : Int32) (S : St) : Option (St) := z_bv (f_X9_put N ((z_rfS o0 0)) ((S o0 6)) (a1) S) fun S1 => z_bv (f_X9_put N ((z_rfS o0 1)) ((S o0 6)) ((a1 - 97)) S1) fun S3 => z_bd (f_X5_comesToEnd N (o0) (a2) (a3) S3) fun r6 S5 => if r6 = 0 then (b_X5_add_49 N o0 (a1) (a2) (a3) ((S o0 6)) (0) ((S o0 6)) S5) else (b_X5_add_49 N o0 (a1) (a2) (a3) ((S o0 6)) (1) ((S o0 6)) S5)
set_option maxHeartbeats 4000000 in
set_option maxRecDepth 100000 in
theorem c_X5_add {l : Launch} {G : Cx} {M S S' : St} {N : Nat} {o0 : Nat} {a1 : Int32} {a2 : Int32} {a3 : Int32} (hq : z_inj (gq G)) (hko0 : z_kd o0 = 5) (hxo0 : o0 < 65) (hf : f_X5_add N o0 a1 a2 a3 S = some S') : z_Ct l yX5_add cX5_add 5 none 3 64 G S M [.ref (gq G (o0)), .int (a1), .int (a2), .int (a3)] (z_QV G S' M) := by
  refine z_start (by decide +kernel) (Nat.le_of_ble_eq_true rfl) ?_
  intro p e s m below meth c ls E hr hlk hK hP hS hl
  have E : CallFix p m c cX5_add 5 s _ lw_good RX5 := E
  have hx := E.1
  have hb := E.2.1
  have hown := E.2.2.2.1
  have hts := E.2.2.2.2
  have hJ98 : ∀ (v2 : Int32) (v3 : Int32) (v4 : Int32) (S : St) (H : Heap) (locs : List Loc) (ls : Array Slot), b_X5_add_98 N o0 v2 v3 v4 S = some S' → z_P G S M H → z_S G s.heap H locs → lv_has ls 5 [(0, .ref (gq G (o0))), (2, .int (v2)), (3, .int (v3)), (4, .int (v4))] → W p l e (z_rm 3 64) s m ([.ref (gq G (o0)), .int (a1), .int (a2), .int (a3)] : List Value).toArray below meth c H locs 0 0 (MQ below (z_QV G S' M) ([.ref (gq G (o0)), .int (a1), .int (a2), .int (a3)] : List Value).toArray s 0 0 (z_Aq (gq G))) (F0 m 98 ls []) := by
    intro v2 v3 v4 S H locs ls hf hP hS hl
    unfold b_X5_add_98 at hf
    refine lv_iload_n hx hb dX5_add_98 rfl (lv_at hl 2 rfl) ?_
    refine lv_bipush (v := 51) hx hb dX5_add_99 (by decide) ?_
    refine lv_icmp_ne (tgt := 114) hx hb dX5_add_101 (by decide) (fun hc21 => ?_) (fun hc21 => ?_)
    · replace hf := z_ifn hf hc21
      refine lv_aload_n hx hb dX5_add_114 rfl (lv_at hl 0 rfl) ?_
      refine lv_dup hx hb dX5_add_115 rfl ?_
      refine x_getI (C := RX5) (T := TX5) (N := 8) (ci := 5) (k := 6) (o := o0) E hK hP iwX5 rfl rfl (by decide) (by decide) rfl hko0 hxo0 tw45 dX5_add_116 ?_
      refine lv_iconst (v := 1) hx hb dX5_add_119 (by decide) ?_
      refine lv_iadd hx hb dX5_add_120 ?_
      refine x_putI (C := RX5) (T := TX5) (N := 8) (ci := 5) (k := 6) (o := o0) (v := ((S o0 6) + 1)) (ty := .int) E hK hq hP hS iwX5 tyX5 tyX5_ok nmX5 rfl rfl (by decide) (by decide) rfl hko0 hxo0 rfl (tyX5_ok 6 (by decide)) ⟨rfl, rfl⟩ tw45 dX5_add_121 (fun H locs hP hS => ?_)
      obtain ⟨S22, hf, hP⟩ := z_ltX hf hP
      exact x_retv hx hb hr hlk hf hP hS dX5_add_124
    · replace hf := z_ifp hf hc21
      refine lv_aload_n hx hb dX5_add_104 rfl (lv_at hl 0 rfl) ?_
      refine z_getR (C := RX5) (T := TX5) (N := 8) (ci := 5) (k := 3) (o := o0) (t := (z_rfS o0 3)) E hK hP iwX5 rfl rfl (by decide) (by decide) rfl hko0 (z_rf_S (by rw [hko0]; decide)) tw42 dX5_add_105 ?_
      refine lv_iload_n hx hb dX5_add_108 rfl (lv_at hl 1 rfl) ?_
      refine lv_iload hx hb dX5_add_109 (lv_at hl 3 rfl) ?_
      obtain ⟨S23, hz24, hf⟩ := z_bv_some hf
      refine z_cvo (z_runSN (host := RX9) E hK hP hS (c_X9_put hq (z_rk5_3 hko0) (z_rl5_3 hko0) hz24) cs_X9_put (by decide +kernel) rfl ⟨Nat.le_of_ble_eq_true rfl, Nat.le_of_ble_eq_true rfl⟩ ⟨Nat.le_refl 0, Nat.le_refl 0⟩ hl.1 (Nat.le_of_ble_eq_true rfl) rfl dX5_add_111) hS (fun H locs hP hS => ?_)
      refine lv_aload_n hx hb dX5_add_114 rfl (lv_at hl 0 rfl) ?_
      refine lv_dup hx hb dX5_add_115 rfl ?_
      refine x_getI (C := RX5) (T := TX5) (N := 8) (ci := 5) (k := 6) (o := o0) E hK hP iwX5 rfl rfl (by decide) (by decide) rfl hko0 hxo0 tw45 dX5_add_116 ?_
      refine lv_iconst (v := 1) hx hb dX5_add_119 (by decide) ?_
      refine lv_iadd hx hb dX5_add_120 ?_
      refine x_putI (C := RX5) (T := TX5) (N := 8) (ci := 5) (k := 6) (o := o0) (v := ((S23 o0 6) + 1)) (ty := .int) E hK hq hP hS iwX5 tyX5 tyX5_ok nmX5 rfl rfl (by decide) (by decide) rfl hko0 hxo0 rfl (tyX5_ok 6 (by decide)) ⟨rfl, rfl⟩ tw45 dX5_add_121 (fun H locs hP hS => ?_)
      obtain ⟨S25, hf, hP⟩ := z_ltX hf hP
      exact x_retv hx hb hr hlk hf hP hS dX5_add_124
  have hJ82 : ∀ (v2 : Int32) (v3 : Int32) (v4 : Int32) (S : St) (H : Heap) (locs : List Loc) (ls : Array Slot), b_X5_add_82 N o0 v2 v3 v4 S = some S' → z_P G S M H → z_S G s.heap H locs → lv_has ls 5 [(0, .ref (gq G (o0))), (2, .int (v2)), (3, .int (v3)), (4, .int (v4))] → W p l e (z_rm 3 64) s m ([.ref (gq G (o0)), .int (a1), .int (a2), .int (a3)] : List Value).toArray below meth c H locs 0 0 (MQ below (z_QV G S' M) ([.ref (gq G (o0)), .int (a1), .int (a2), .int (a3)] : List Value).toArray s 0 0 (z_Aq (gq G))) (F0 m 82 ls []) := by
    intro v2 v3 v4 S H locs ls hf hP hS hl
    unfold b_X5_add_82 at hf
    refine lv_iload_n hx hb dX5_add_82 rfl (lv_at hl 2 rfl) ?_
    refine lv_bipush (v := 50) hx hb dX5_add_83 (by decide) ?_
    refine lv_icmp_ne (tgt := 98) hx hb dX5_add_85 (by decide) (fun hc18 => ?_) (fun hc18 => ?_)
    · replace hf := z_ifn hf hc18
      exact hJ98 (v2) (v3) (v4) S _ _ _ hf hP hS (lv_sub hl [0, 1, 2, 3] rfl)
    · replace hf := z_ifp hf hc18
      refine lv_aload_n hx hb dX5_add_88 rfl (lv_at hl 0 rfl) ?_
      refine z_getR (C := RX5) (T := TX5) (N := 8) (ci := 5) (k := 2) (o := o0) (t := (z_rfS o0 2)) E hK hP iwX5 rfl rfl (by decide) (by decide) rfl hko0 (z_rf_S (by rw [hko0]; decide)) tw41 dX5_add_89 ?_
      refine lv_iload_n hx hb dX5_add_92 rfl (lv_at hl 1 rfl) ?_
      refine lv_iload hx hb dX5_add_93 (lv_at hl 3 rfl) ?_
      obtain ⟨S19, hz20, hf⟩ := z_bv_some hf
      refine z_cvo (z_runSN (host := RX9) E hK hP hS (c_X9_put hq (z_rk5_2 hko0) (z_rl5_2 hko0) hz20) cs_X9_put (by decide +kernel) rfl ⟨Nat.le_of_ble_eq_true rfl, Nat.le_of_ble_eq_true rfl⟩ ⟨Nat.le_refl 0, Nat.le_refl 0⟩ hl.1 (Nat.le_of_ble_eq_true rfl) rfl dX5_add_95) hS (fun H locs hP hS => ?_)
      exact hJ98 (v2) (v3) (v4) S19 _ _ _ hf hP hS (lv_sub hl [0, 1, 2, 3] rfl)
  have hJ49 : ∀ (v1 : Int32) (v2 : Int32) (v3 : Int32) (v4 : Int32) (t0 : Int32) (t1 : Int32) (S : St) (H : Heap) (locs : List Loc) (ls : Array Slot), b_X5_add_49 N o0 v1 v2 v3 v4 t0 t1 S = some S' → z_P G S M H → z_S G s.heap H locs → lv_has ls 5 [(0, .ref (gq G (o0))), (1, .int (v1)), (2, .int (v2)), (3, .int (v3)), (4, .int (v4))] → W p l e (z_rm 3 64) s m ([.ref (gq G (o0)), .int (a1), .int (a2), .int (a3)] : List Value).toArray below meth c H locs 0 0 (MQ below (z_QV G S' M) ([.ref (gq G (o0)), .int (a1), .int (a2), .int (a3)] : List Value).toArray s 0 0 (z_Aq (gq G))) (F0 m 49 ls [.int (t0), .int (t1), .ref (gq G ((z_rfS o0 5)))]) := by
    intro v1 v2 v3 v4 t0 t1 S H locs ls hf hP hS hl
    unfold b_X5_add_49 at hf
    obtain ⟨S9, hz10, hf⟩ := z_bv_some hf
    refine z_cvo (z_runSN (host := RX9) E hK hP hS (c_X9_put hq (z_rk5_5 hko0) (z_rl5_5 hko0) hz10) cs_X9_put (by decide +kernel) rfl ⟨Nat.le_of_ble_eq_true rfl, Nat.le_of_ble_eq_true rfl⟩ ⟨Nat.le_refl 0, Nat.le_refl 0⟩ hl.1 (Nat.le_of_ble_eq_true rfl) rfl dX5_add_49) hS (fun H locs hP hS => ?_)
    refine lv_iload_n hx hb dX5_add_52 rfl (lv_at hl 1 rfl) ?_
    obtain ⟨r12, S11, hz13, hf⟩ := z_bd_some hf
    refine z_ci (z_runS E hK hP hS (c_X3_isSite hq hz13) cs_X3_isSite tw474 rfl ⟨Nat.le_of_ble_eq_true rfl, Nat.le_of_ble_eq_true rfl⟩ ⟨Nat.le_refl 0, Nat.le_refl 0⟩ hl.1 (Nat.le_of_ble_eq_true rfl) rfl dX5_add_53) hS (fun H locs hP hS => ?_)
    refine lv_if_eq (tgt := 82) hx hb dX5_add_56 (by decide) (fun hc14 => ?_) (fun hc14 => ?_)
    · replace hf := z_ifp hf hc14
      exact hJ82 (v2) (v3) (v4) S11 _ _ _ hf hP hS (lv_sub hl [0, 2, 3, 4] rfl)
    · replace hf := z_ifn hf hc14
      refine lv_aload_n hx hb dX5_add_59 rfl (lv_at hl 0 rfl) ?_
      refine z_getR (C := RX5) (T := TX5) (N := 8) (ci := 5) (k := 4) (o := o0) (t := (z_rfS o0 4)) E hK hP iwX5 rfl rfl (by decide) (by decide) rfl hko0 (z_rf_S (by rw [hko0]; decide)) tw43 dX5_add_60 ?_
      refine lv_iload hx hb dX5_add_63 (lv_at hl 4 rfl) ?_
      refine lv_aload_n hx hb dX5_add_65 rfl (lv_at hl 0 rfl) ?_
      refine x_getI (C := RX5) (T := TX5) (N := 8) (ci := 5) (k := 7) (o := o0) E hK hP iwX5 rfl rfl (by decide) (by decide) rfl hko0 hxo0 tw47 dX5_add_66 ?_
      obtain ⟨S15, hz16, hf⟩ := z_bv_some hf
      refine z_cvo (z_runSN (host := RX9) E hK hP hS (c_X9_put hq (z_rk5_4 hko0) (z_rl5_4 hko0) hz16) cs_X9_put (by decide +kernel) rfl ⟨Nat.le_of_ble_eq_true rfl, Nat.le_of_ble_eq_true rfl⟩ ⟨Nat.le_refl 0, Nat.le_refl 0⟩ hl.1 (Nat.le_of_ble_eq_true rfl) rfl dX5_add_69) hS (fun H locs hP hS => ?_)
      refine lv_aload_n hx hb dX5_add_72 rfl (lv_at hl 0 rfl) ?_
      refine lv_dup hx hb dX5_add_73 rfl ?_
      refine x_getI (C := RX5) (T := TX5) (N := 8) (ci := 5) (k := 7) (o := o0) E hK hP iwX5 rfl rfl (by decide) (by decide) rfl hko0 hxo0 tw47 dX5_add_74 ?_
      refine lv_iconst (v := 1) hx hb dX5_add_77 (by decide) ?_
      refine lv_iadd hx hb dX5_add_78 ?_
      refine x_putI (C := RX5) (T := TX5) (N := 8) (ci := 5) (k := 7) (o := o0) (v := ((S15 o0 7) + 1)) (ty := .int) E hK hq hP hS iwX5 tyX5 tyX5_ok nmX5 rfl rfl (by decide) (by decide) rfl hko0 hxo0 rfl (tyX5_ok 7 (by decide)) ⟨rfl, rfl⟩ tw47 dX5_add_79 (fun H locs hP hS => ?_)
      obtain ⟨S17, hf, hP⟩ := z_ltX hf hP
      exact hJ82 (v2) (v3) (v4) S17 _ _ _ hf hP hS (lv_sub hl [0, 2, 3, 4] rfl)
  have hl : lv_has ls 5 [(0, .ref (gq G (o0))), (1, .int (a1)), (2, .int (a2)), (3, .int (a3))] := hl
  unfold f_X5_add at hf
  refine lv_aload_n hx hb dX5_add_0 rfl (lv_at hl 0 rfl) ?_
  refine x_getI (C := RX5) (T := TX5) (N := 8) (ci := 5) (k := 6) (o := o0) E hK hP iwX5 rfl rfl (by decide) (by decide) rfl hko0 hxo0 tw45 dX5_add_1 ?_
  refine lv_istore (lv' := [(4, .int ((S o0 6))), (0, .ref (gq G (o0))), (1, .int (a1)), (2, .int (a2)), (3, .int (a3))]) hx hb dX5_add_4 hl (by decide) rfl (fun ls hl => ?_)
  refine lv_aload_n hx hb dX5_add_6 rfl (lv_at hl 1 rfl) ?_
  refine z_getR (C := RX5) (T := TX5) (N := 8) (ci := 5) (k := 0) (o := o0) (t := (z_rfS o0 0)) E hK hP iwX5 rfl rfl (by decide) (by decide) rfl hko0 (z_rf_S (by rw [hko0]; decide)) tw39 dX5_add_7 ?_
  refine lv_iload hx hb dX5_add_10 (lv_at hl 0 rfl) ?_
  refine lv_iload_n hx hb dX5_add_12 rfl (lv_at hl 2 rfl) ?_
  obtain ⟨S1, hz2, hf⟩ := z_bv_some hf
  refine z_cvo (z_runSN (host := RX9) E hK hP hS (c_X9_put hq (z_rk5_0 hko0) (z_rl5_0 hko0) hz2) cs_X9_put (by decide +kernel) rfl ⟨Nat.le_of_ble_eq_true rfl, Nat.le_of_ble_eq_true rfl⟩ ⟨Nat.le_refl 0, Nat.le_refl 0⟩ hl.1 (Nat.le_of_ble_eq_true rfl) rfl dX5_add_13) hS (fun H locs hP hS => ?_)
  refine lv_aload_n hx hb dX5_add_16 rfl (lv_at hl 1 rfl) ?_
  refine z_getR (C := RX5) (T := TX5) (N := 8) (ci := 5) (k := 1) (o := o0) (t := (z_rfS o0 1)) E hK hP iwX5 rfl rfl (by decide) (by decide) rfl hko0 (z_rf_S (by rw [hko0]; decide)) tw40 dX5_add_17 ?_
  refine lv_iload hx hb dX5_add_20 (lv_at hl 0 rfl) ?_
  refine lv_iload_n hx hb dX5_add_22 rfl (lv_at hl 2 rfl) ?_
  refine lv_bipush (v := 97) hx hb dX5_add_23 (by decide) ?_
  refine lv_isub hx hb dX5_add_25 ?_
  obtain ⟨S3, hz4, hf⟩ := z_bv_some hf
  refine z_cvo (z_runSN (host := RX9) E hK hP hS (c_X9_put hq (z_rk5_1 hko0) (z_rl5_1 hko0) hz4) cs_X9_put (by decide +kernel) rfl ⟨Nat.le_of_ble_eq_true rfl, Nat.le_of_ble_eq_true rfl⟩ ⟨Nat.le_refl 0, Nat.le_refl 0⟩ hl.1 (Nat.le_of_ble_eq_true rfl) rfl dX5_add_26) hS (fun H locs hP hS => ?_)
  refine lv_aload_n hx hb dX5_add_29 rfl (lv_at hl 1 rfl) ?_
  refine z_getR (C := RX5) (T := TX5) (N := 8) (ci := 5) (k := 5) (o := o0) (t := (z_rfS o0 5)) E hK hP iwX5 rfl rfl (by decide) (by decide) rfl hko0 (z_rf_S (by rw [hko0]; decide)) tw44 dX5_add_30 ?_
  refine lv_iload hx hb dX5_add_33 (lv_at hl 0 rfl) ?_
  refine lv_aload_n hx hb dX5_add_35 rfl (lv_at hl 1 rfl) ?_
  refine lv_iload_n hx hb dX5_add_36 rfl (lv_at hl 3 rfl) ?_
  refine lv_iload_n hx hb dX5_add_37 rfl (lv_at hl 4 rfl) ?_
  obtain ⟨r6, S5, hz7, hf⟩ := z_bd_some hf
  refine z_ci (z_runV (o := o0) (ci := 5) E hK hP hS (c_X5_comesToEnd hq hko0 hxo0 hz7) cv_X5_comesToEnd tw461 hko0 (by decide) rfl rfl ⟨Nat.le_of_ble_eq_true rfl, Nat.le_of_ble_eq_true rfl⟩ ⟨Nat.le_refl 0, Nat.le_refl 0⟩ hl.1 (Nat.le_of_ble_eq_true rfl) rfl dX5_add_38) hS (fun H locs hP hS => ?_)
  refine lv_if_eq (tgt := 48) hx hb dX5_add_41 (by decide) (fun hc8 => ?_) (fun hc8 => ?_)
  · replace hf := z_ifp hf hc8
    refine lv_iconst (v := 0) hx hb dX5_add_48 (by decide) ?_
    exact hJ49 (a1) (a2) (a3) ((S o0 6)) (0) ((S o0 6)) S5 _ _ _ hf hP hS (lv_sub hl [1, 2, 3, 4, 0] rfl)
  · replace hf := z_ifn hf hc8
    refine lv_iconst (v := 1) hx hb dX5_add_44 (by decide) ?_
    refine lv_goto (tgt := 49) hx hb dX5_add_45 (by decide) ?_
    exact hJ49 (a1) (a2) (a3) ((S o0 6)) (1) ((S o0 6)) S5 _ _ _ hf hP hS (lv_sub hl [1, 2, 3, 4, 0] rfl)
theorem cv_X5_add : z_cv yX5_add cX5_add 5 none RX5 3 := ⟨⟨tw458, tw459⟩, tw460, tw3, by decide +kernel⟩
