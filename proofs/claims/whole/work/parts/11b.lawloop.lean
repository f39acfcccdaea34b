theorem law_gt {x3 : Int32} {L j : Nat} (hL : L ≤ 3072) (hjL : j ≤ L) (ej : x3 = nI j) (h : L < j + 6) : Int32.ofNat L - 6 < x3 := by
  rw [ej]
  have e1 : Int32.ofNat L - 6 = nI L - nI 6 := rfl
  rw [e1]
  rcases Nat.lt_or_ge L 6 with q | q
  · have h1 : nI L - nI 6 < 0 := pk_sneg (by omega) q
    have h2 : (0 : Int32) ≤ nI j ∨ ¬ (0 : Int32) ≤ nI j := Classical.em _
    rw [Int32.lt_iff_toInt_lt] at h1 ⊢
    rcases Nat.lt_or_ge j (2 ^ 31) with z | z
    · rw [nI_toInt z]
      have : (0 : Int32).toInt = 0 := rfl
      omega
    · omega
  · rw [pk_sub q]
    rcases Nat.lt_or_ge j (2 ^ 31) with z | z
    · exact nI_lt (by omega) z
    · omega
theorem law_end {p : Program} {l : Launch} {e : Env} {s : State} {m : MethodId} {below : List Frame} {meth : Method} {c : Code} {b : Nat} {G : XG} {B : Nat → Nat} {σ : XS} {μ : MS} {H : Heap} {locs : List Loc} {ls : Array Slot} (hC : jC p s m #[Value.ref b] meth c cL_law 4 RL) (hr : meth.sig.returnType = ret) (hH : lH G B s (fun q : Nat => s.heap.size ≤ q) σ μ H locs) (cells slots : Nat) (hc1 : cells ≤ 600000) (hc2 : slots ≤ 7302250) : W p l e room_1 s m #[Value.ref b] below meth c H locs cells slots (lw_Z below #[Value.ref b] s) (F0 m 1401 ls []) := by
  refine lv_iconst (v := 1) hC.1.1 hC.1.2.1 dL_law_1401 (by decide) ?_
  refine va_forget (fun q hq => hH.1.2.2.1.2.2 q hq) ?_
  refine W.widen (k := 600000) (n := 7302250) hc1 hc2 ?_
  exact lw_ret hC.1.1 hC.1.2.1 hr hC.2 dL_law_1402
set_option maxHeartbeats 4000000 in
set_option maxRecDepth 100000 in
/-- THE LAW'S LOOP -/
theorem law_loop {p : Program} {l : Launch} {e : Env} {s : State} {m : MethodId} {below : List Frame} {meth : Method} {c : Code} {b L : Nat} {xs : Nat → Int32} {G : XG} {B : Nat → Nat} {Re : XS → MS → Prop} (hL : L ≤ 3072) (hC : jC p s m #[Value.ref b] meth c cL_law 4 RL) (hX : va_X b L xs s s.heap) (hbl : b < s.heap.size) (hr : meth.sig.returnType = ret)  (hSt_letter : Ls_letter Re) (hSt_told : Ls_told Re) (hSt_as : Ls_as Re) (hSt_turns : Ls_turns Re) (hSt_set : Ls_set Re) (hSt_puts : Ls_puts Re) (hSt_at : Ls_at Re) (hSt_halt : Ls_halt Re) (hSt_bump : Ls_bump Re) (hSt_deal : Ls_deal Re) (hSt_seed : Ls_seed Re) (hSt_jolts : Ls_jolts Re) (hSt_bag : Ls_bag Re) (hSt_behind : Ls_behind Re) (hSt_rests : Ls_rests Re) (hSt_padding : Ls_padding Re) (hSt_stays : Ls_stays Re) (hSt_bundle : Ls_bundle Re) (hSt_halts : Ls_halts Re) (hSt_miles : Ls_miles Re) (hSt_fee : Ls_fee Re) (hSt_fine : Ls_fine Re) (hSt_feed : Ls_feed Re) (hSt_trim : Ls_trim Re) (hSt_text : Ls_text Re) (hSt_textTold : Ls_textTold Re) (hSt_why : Ls_why Re) (hSt_sheet : Ls_sheet Re) (hSt_mark : Ls_mark Re) (hSt_pour : Ls_pour Re) (hSt_reads : Ls_reads Re) (hSt_copy : Ls_copy Re) (hSt_lay : Ls_lay Re) (hSt_ask : Ls_ask Re) (hSt_item : Ls_item Re) (hSt_rest : Ls_rest Re) (hSt_tell : Ls_tell Re) (hSt_check : Ls_check Re) (hSt_keep : Ls_keep Re) (hSt_back : Ls_back Re) (hSt_count : Ls_count Re) : ∀ (n j : Nat) (x3 : Int32), x3 = nI j → j ≤ L → L + 6 ≤ j + 6 * n + 5 → ∀ (σ : XS) (μ : MS), Re σ μ → ∀ (cells slots : Nat), cells + 3 * n ≤ 600000 → slots + 196 * n ≤ 7302250 → ∀ (H : Heap) (locs : List Loc) (ls : Array Slot), lH G B s (fun q : Nat => s.heap.size ≤ q) σ μ H locs → lv_has ls 4 [(0, .ref b), (1, .ref (xA G 0)), (2, .ref (B 0)), (3, .int x3)] → W p l e room_1 s m #[Value.ref b] below meth c H locs cells slots (lw_Z below #[Value.ref b] s) (F0 m 18 ls []) := by
  have hx := hC.1.1
  have hb := hC.1.2.1
  have hbA : ¬ (fun q : Nat => s.heap.size ≤ q) b := Nat.not_le.mpr hbl
  intro n
  induction n with
  | zero =>
    intro j x3 ej hj hn σ μ hRe cells slots hc1 hc2 H locs ls hH hl
    refine lv_iload_n hx hb dL_law_18 rfl (lv_at hl 3 rfl) ?_
    refine lv_aload_n hx hb dL_law_19 rfl (lv_at hl 0 rfl) ?_
    refine va_slen hx hb hX hbl hbA hH.1.2.2.1 dL_law_20 ?_
    refine lv_bipush (v := 6) hx hb dL_law_21 (by decide) ?_
    refine lv_isub hx hb dL_law_23 ?_
    refine lv_icmp_gt (tgt := 1401) hx hb dL_law_24 (by decide) (fun c1 => ?_) (fun c1 => absurd (law_gt hL hj ej (by omega)) c1)
    exact law_end hC hr hH cells slots (by omega) (by omega)
  | succ n ih =>
    intro j x3 ej hj hn σ μ hRe cells slots hc1 hc2 H locs ls hH hl
    refine lv_iload_n hx hb dL_law_18 rfl (lv_at hl 3 rfl) ?_
    refine lv_aload_n hx hb dL_law_19 rfl (lv_at hl 0 rfl) ?_
    refine va_slen hx hb hX hbl hbA hH.1.2.2.1 dL_law_20 ?_
    refine lv_bipush (v := 6) hx hb dL_law_21 (by decide) ?_
    refine lv_isub hx hb dL_law_23 ?_
    refine lv_icmp_gt (tgt := 1401) hx hb dL_law_24 (by decide) (fun c1 => ?_) (fun c1 => ?_)
    · exact law_end hC hr hH cells slots (by omega) (by omega)
    · have hj6 : j + 6 ≤ L := by
        rcases Nat.lt_or_ge L (j + 6) with q | q
        · exact absurd (law_gt hL hj ej q) c1
        · exact q
      have hgo : ∀ (σ : XS) (μ : MS), Re σ μ → ∀ (cells slots : Nat), cells + 3 * n ≤ 600000 → slots + 196 * n ≤ 7302250 → ∀ (H : Heap) (locs : List Loc) (ls : Array Slot), lH G B s (fun q : Nat => s.heap.size ≤ q) σ μ H locs → lv_has ls 4 [(0, .ref b), (1, .ref (xA G 0)), (2, .ref (B 0)), (3, .int x3)] → W p l e room_1 s m #[Value.ref b] below meth c H locs cells slots (lw_Z below #[Value.ref b] s) (F0 m 1395 ls []) := by
        intro σ μ hRe cells slots h1 h2 H locs ls hH hl
        refine lv_iinc (v := x3 + 6) (lv' := [(3, .int (x3 + 6)), (0, .ref b), (1, .ref (xA G 0)), (2, .ref (B 0))]) hx hb dL_law_1395 hl (k := 3) rfl rfl (by decide) rfl (fun ls hl => ?_)
        refine lv_goto (tgt := 18) hx hb dL_law_1398 (by decide) ?_
        exact ih (j + 6) (x3 + 6) (by rw [ej]; exact nI_add j 6) (by omega) (by omega) σ μ hRe cells slots h1 h2 H locs ls hH (lv_sub hl [1, 2, 3, 0] rfl)
      refine lv_aload_n hx hb dL_law_27 rfl (lv_at hl 0 rfl) ?_
      refine lv_iload_n hx hb dL_law_28 rfl (lv_at hl 3 rfl) ?_
      refine va_sld hx hb hX hbl hbA hH.1.2.2.1 (by have h0 := sc_in (k := 0) hL j ej hj6 (by decide); rwa [show x3 + Int32.ofNat 0 = x3 from by rw [ej, show Int32.ofNat 0 = nI 0 from rfl, nI_add]; rfl] at h0) dL_law_29 ?_
      refine lv_bipush (v := 63) hx hb dL_law_30 (by decide) ?_
      refine lv_iand hx hb dL_law_32 ?_
      refine lv_topi (fun v ev => ?_)
      by_cases c0 : v = (0 : Int32)
      · refine lv_tsw (tgt := 212) (off := 179) hx hb (0) c0 dL_law_33 (by decide) (by decide) (by decide) (by decide) ?_
        exact law_letter hL hC hX hbl hSt_letter n j x3 ej hj6 σ μ hRe cells slots hc1 hc2 H locs ls hH hl hgo
      · skip
        by_cases c1 : v = (1 : Int32)
        · refine lv_tsw (tgt := 255) (off := 222) hx hb (1) c1 dL_law_33 (by decide) (by decide) (by decide) (by decide) ?_
          exact law_told hL hC hX hbl hSt_told n j x3 ej hj6 σ μ hRe cells slots hc1 hc2 H locs ls hH hl hgo
        · skip
          by_cases c2 : v = (2 : Int32)
          · refine lv_tsw (tgt := 288) (off := 255) hx hb (2) c2 dL_law_33 (by decide) (by decide) (by decide) (by decide) ?_
            exact law_as hL hC hX hbl hSt_as n j x3 ej hj6 σ μ hRe cells slots hc1 hc2 H locs ls hH hl hgo
          · skip
            by_cases c3 : v = (3 : Int32)
            · refine lv_tsw (tgt := 321) (off := 288) hx hb (3) c3 dL_law_33 (by decide) (by decide) (by decide) (by decide) ?_
              exact law_turns hL hC hX hbl hSt_turns n j x3 ej hj6 σ μ hRe cells slots hc1 hc2 H locs ls hH hl hgo
            · skip
              by_cases c4 : v = (4 : Int32)
              · refine lv_tsw (tgt := 354) (off := 321) hx hb (4) c4 dL_law_33 (by decide) (by decide) (by decide) (by decide) ?_
                exact law_set hL hC hX hbl hSt_set n j x3 ej hj6 σ μ hRe cells slots hc1 hc2 H locs ls hH hl hgo
              · skip
                by_cases c5 : v = (5 : Int32)
                · refine lv_tsw (tgt := 397) (off := 364) hx hb (5) c5 dL_law_33 (by decide) (by decide) (by decide) (by decide) ?_
                  exact law_puts hL hC hX hbl hSt_puts n j x3 ej hj6 σ μ hRe cells slots hc1 hc2 H locs ls hH hl hgo
                · skip
                  by_cases c6 : v = (6 : Int32)
                  · refine lv_tsw (tgt := 430) (off := 397) hx hb (6) c6 dL_law_33 (by decide) (by decide) (by decide) (by decide) ?_
                    exact law_at hL hC hX hbl hSt_at n j x3 ej hj6 σ μ hRe cells slots hc1 hc2 H locs ls hH hl hgo
                  · skip
                    by_cases c7 : v = (7 : Int32)
                    · refine lv_tsw (tgt := 453) (off := 420) hx hb (7) c7 dL_law_33 (by decide) (by decide) (by decide) (by decide) ?_
                      exact law_halt hL hC hX hbl hSt_halt n j x3 ej hj6 σ μ hRe cells slots hc1 hc2 H locs ls hH hl hgo
                    · skip
                      by_cases c8 : v = (8 : Int32)
                      · refine lv_tsw (tgt := 466) (off := 433) hx hb (8) c8 dL_law_33 (by decide) (by decide) (by decide) (by decide) ?_
                        exact law_bump hL hC hX hbl hSt_bump n j x3 ej hj6 σ μ hRe cells slots hc1 hc2 H locs ls hH hl hgo
                      · skip
                        by_cases c9 : v = (9 : Int32)
                        · refine lv_tsw (tgt := 489) (off := 456) hx hb (9) c9 dL_law_33 (by decide) (by decide) (by decide) (by decide) ?_
                          exact law_deal hL hC hX hbl hSt_deal n j x3 ej hj6 σ μ hRe cells slots hc1 hc2 H locs ls hH hl hgo
                        · skip
                          by_cases c10 : v = (10 : Int32)
                          · refine lv_tsw (tgt := 512) (off := 479) hx hb (10) c10 dL_law_33 (by decide) (by decide) (by decide) (by decide) ?_
                            exact law_seed hL hC hX hbl hSt_seed n j x3 ej hj6 σ μ hRe cells slots hc1 hc2 H locs ls hH hl hgo
                          · skip
                            by_cases c11 : v = (11 : Int32)
                            · refine lv_tsw (tgt := 535) (off := 502) hx hb (11) c11 dL_law_33 (by decide) (by decide) (by decide) (by decide) ?_
                              exact law_jolts hL hC hX hbl hSt_jolts n j x3 ej hj6 σ μ hRe cells slots hc1 hc2 H locs ls hH hl hgo
                            · skip
                              by_cases c12 : v = (12 : Int32)
                              · refine lv_tsw (tgt := 558) (off := 525) hx hb (12) c12 dL_law_33 (by decide) (by decide) (by decide) (by decide) ?_
                                exact law_bag hL hC hX hbl hSt_bag n j x3 ej hj6 σ μ hRe cells slots hc1 hc2 H locs ls hH hl hgo
                              · skip
                                by_cases c13 : v = (13 : Int32)
                                · refine lv_tsw (tgt := 581) (off := 548) hx hb (13) c13 dL_law_33 (by decide) (by decide) (by decide) (by decide) ?_
                                  exact law_behind hL hC hX hbl hSt_behind n j x3 ej hj6 σ μ hRe cells slots hc1 hc2 H locs ls hH hl hgo
                                · skip
                                  by_cases c14 : v = (14 : Int32)
                                  · refine lv_tsw (tgt := 614) (off := 581) hx hb (14) c14 dL_law_33 (by decide) (by decide) (by decide) (by decide) ?_
                                    exact law_rests hL hC hX hbl hSt_rests n j x3 ej hj6 σ μ hRe cells slots hc1 hc2 H locs ls hH hl hgo
                                  · skip
                                    by_cases c15 : v = (15 : Int32)
                                    · refine lv_tsw (tgt := 627) (off := 594) hx hb (15) c15 dL_law_33 (by decide) (by decide) (by decide) (by decide) ?_
                                      exact law_padding hL hC hX hbl hSt_padding n j x3 ej hj6 σ μ hRe cells slots hc1 hc2 H locs ls hH hl hgo
                                    · skip
                                      by_cases c16 : v = (16 : Int32)
                                      · refine lv_tsw (tgt := 670) (off := 637) hx hb (16) c16 dL_law_33 (by decide) (by decide) (by decide) (by decide) ?_
                                        exact law_stays hL hC hX hbl hSt_stays n j x3 ej hj6 σ μ hRe cells slots hc1 hc2 H locs ls hH hl hgo
                                      · skip
                                        by_cases c17 : v = (17 : Int32)
                                        · refine lv_tsw (tgt := 693) (off := 660) hx hb (17) c17 dL_law_33 (by decide) (by decide) (by decide) (by decide) ?_
                                          exact law_bundle hL hC hX hbl hSt_bundle n j x3 ej hj6 σ μ hRe cells slots hc1 hc2 H locs ls hH hl hgo
                                        · skip
                                          by_cases c18 : v = (18 : Int32)
                                          · refine lv_tsw (tgt := 726) (off := 693) hx hb (18) c18 dL_law_33 (by decide) (by decide) (by decide) (by decide) ?_
                                            exact law_halts hL hC hX hbl hSt_halts n j x3 ej hj6 σ μ hRe cells slots hc1 hc2 H locs ls hH hl hgo
                                          · skip
                                            by_cases c19 : v = (19 : Int32)
                                            · refine lv_tsw (tgt := 759) (off := 726) hx hb (19) c19 dL_law_33 (by decide) (by decide) (by decide) (by decide) ?_
                                              exact law_miles hL hC hX hbl hSt_miles n j x3 ej hj6 σ μ hRe cells slots hc1 hc2 H locs ls hH hl hgo
                                            · skip
                                              by_cases c20 : v = (20 : Int32)
                                              · refine lv_tsw (tgt := 792) (off := 759) hx hb (20) c20 dL_law_33 (by decide) (by decide) (by decide) (by decide) ?_
                                                exact law_fee hL hC hX hbl hSt_fee n j x3 ej hj6 σ μ hRe cells slots hc1 hc2 H locs ls hH hl hgo
                                              · skip
                                                by_cases c21 : v = (21 : Int32)
                                                · refine lv_tsw (tgt := 805) (off := 772) hx hb (21) c21 dL_law_33 (by decide) (by decide) (by decide) (by decide) ?_
                                                  exact law_fine hL hC hX hbl hSt_fine n j x3 ej hj6 σ μ hRe cells slots hc1 hc2 H locs ls hH hl hgo
                                                · skip
                                                  by_cases c22 : v = (22 : Int32)
                                                  · refine lv_tsw (tgt := 828) (off := 795) hx hb (22) c22 dL_law_33 (by decide) (by decide) (by decide) (by decide) ?_
                                                    exact law_feed hL hC hX hbl hSt_feed n j x3 ej hj6 σ μ hRe cells slots hc1 hc2 H locs ls hH hl hgo
                                                  · skip
                                                    by_cases c23 : v = (23 : Int32)
                                                    · refine lv_tsw (tgt := 871) (off := 838) hx hb (23) c23 dL_law_33 (by decide) (by decide) (by decide) (by decide) ?_
                                                      exact law_trim hL hC hX hbl hSt_trim n j x3 ej hj6 σ μ hRe cells slots hc1 hc2 H locs ls hH hl hgo
                                                    · skip
                                                      by_cases c24 : v = (24 : Int32)
                                                      · refine lv_tsw (tgt := 894) (off := 861) hx hb (24) c24 dL_law_33 (by decide) (by decide) (by decide) (by decide) ?_
                                                        exact law_text hL hC hX hbl hSt_text n j x3 ej hj6 σ μ hRe cells slots hc1 hc2 H locs ls hH hl hgo
                                                      · skip
                                                        by_cases c25 : v = (25 : Int32)
                                                        · refine lv_tsw (tgt := 907) (off := 874) hx hb (25) c25 dL_law_33 (by decide) (by decide) (by decide) (by decide) ?_
                                                          exact law_textTold hL hC hX hbl hSt_textTold n j x3 ej hj6 σ μ hRe cells slots hc1 hc2 H locs ls hH hl hgo
                                                        · skip
                                                          by_cases c26 : v = (26 : Int32)
                                                          · refine lv_tsw (tgt := 940) (off := 907) hx hb (26) c26 dL_law_33 (by decide) (by decide) (by decide) (by decide) ?_
                                                            exact law_why hL hC hX hbl hSt_why n j x3 ej hj6 σ μ hRe cells slots hc1 hc2 H locs ls hH hl hgo
                                                          · skip
                                                            by_cases c27 : v = (27 : Int32)
                                                            · refine lv_tsw (tgt := 963) (off := 930) hx hb (27) c27 dL_law_33 (by decide) (by decide) (by decide) (by decide) ?_
                                                              exact law_sheet hL hC hX hbl hSt_sheet n j x3 ej hj6 σ μ hRe cells slots hc1 hc2 H locs ls hH hl hgo
                                                            · skip
                                                              by_cases c28 : v = (28 : Int32)
                                                              · refine lv_tsw (tgt := 1006) (off := 973) hx hb (28) c28 dL_law_33 (by decide) (by decide) (by decide) (by decide) ?_
                                                                exact law_mark hL hC hX hbl hSt_mark n j x3 ej hj6 σ μ hRe cells slots hc1 hc2 H locs ls hH hl hgo
                                                              · skip
                                                                by_cases c29 : v = (29 : Int32)
                                                                · refine lv_tsw (tgt := 1049) (off := 1016) hx hb (29) c29 dL_law_33 (by decide) (by decide) (by decide) (by decide) ?_
                                                                  exact law_pour hL hC hX hbl hSt_pour n j x3 ej hj6 σ μ hRe cells slots hc1 hc2 H locs ls hH hl hgo
                                                                · skip
                                                                  by_cases c30 : v = (30 : Int32)
                                                                  · refine lv_tsw (tgt := 1072) (off := 1039) hx hb (30) c30 dL_law_33 (by decide) (by decide) (by decide) (by decide) ?_
                                                                    exact law_reads hL hC hX hbl hSt_reads n j x3 ej hj6 σ μ hRe cells slots hc1 hc2 H locs ls hH hl hgo
                                                                  · skip
                                                                    by_cases c31 : v = (31 : Int32)
                                                                    · refine lv_tsw (tgt := 1095) (off := 1062) hx hb (31) c31 dL_law_33 (by decide) (by decide) (by decide) (by decide) ?_
                                                                      exact law_copy hL hC hX hbl hSt_copy n j x3 ej hj6 σ μ hRe cells slots hc1 hc2 H locs ls hH hl hgo
                                                                    · skip
                                                                      by_cases c32 : v = (32 : Int32)
                                                                      · refine lv_tsw (tgt := 1158) (off := 1125) hx hb (32) c32 dL_law_33 (by decide) (by decide) (by decide) (by decide) ?_
                                                                        exact law_lay hL hC hX hbl hSt_lay n j x3 ej hj6 σ μ hRe cells slots hc1 hc2 H locs ls hH hl hgo
                                                                      · skip
                                                                        by_cases c33 : v = (33 : Int32)
                                                                        · refine lv_tsw (tgt := 1201) (off := 1168) hx hb (33) c33 dL_law_33 (by decide) (by decide) (by decide) (by decide) ?_
                                                                          exact law_ask hL hC hX hbl hSt_ask n j x3 ej hj6 σ μ hRe cells slots hc1 hc2 H locs ls hH hl hgo
                                                                        · skip
                                                                          by_cases c34 : v = (34 : Int32)
                                                                          · refine lv_tsw (tgt := 1234) (off := 1201) hx hb (34) c34 dL_law_33 (by decide) (by decide) (by decide) (by decide) ?_
                                                                            exact law_item hL hC hX hbl hSt_item n j x3 ej hj6 σ μ hRe cells slots hc1 hc2 H locs ls hH hl hgo
                                                                          · skip
                                                                            by_cases c35 : v = (35 : Int32)
                                                                            · refine lv_tsw (tgt := 1267) (off := 1234) hx hb (35) c35 dL_law_33 (by decide) (by decide) (by decide) (by decide) ?_
                                                                              exact law_rest hL hC hX hbl hSt_rest n j x3 ej hj6 σ μ hRe cells slots hc1 hc2 H locs ls hH hl hgo
                                                                            · skip
                                                                              by_cases c36 : v = (36 : Int32)
                                                                              · refine lv_tsw (tgt := 1300) (off := 1267) hx hb (36) c36 dL_law_33 (by decide) (by decide) (by decide) (by decide) ?_
                                                                                exact law_tell hL hC hX hbl hSt_tell n j x3 ej hj6 σ μ hRe cells slots hc1 hc2 H locs ls hH hl hgo
                                                                              · skip
                                                                                by_cases c37 : v = (37 : Int32)
                                                                                · refine lv_tsw (tgt := 1323) (off := 1290) hx hb (37) c37 dL_law_33 (by decide) (by decide) (by decide) (by decide) ?_
                                                                                  exact law_check hL hC hX hbl hSt_check n j x3 ej hj6 σ μ hRe cells slots hc1 hc2 H locs ls hH hl hgo
                                                                                · skip
                                                                                  by_cases c38 : v = (38 : Int32)
                                                                                  · refine lv_tsw (tgt := 1346) (off := 1313) hx hb (38) c38 dL_law_33 (by decide) (by decide) (by decide) (by decide) ?_
                                                                                    exact law_keep hL hC hX hbl hSt_keep n j x3 ej hj6 σ μ hRe cells slots hc1 hc2 H locs ls hH hl hgo
                                                                                  · skip
                                                                                    by_cases c39 : v = (39 : Int32)
                                                                                    · refine lv_tsw (tgt := 1359) (off := 1326) hx hb (39) c39 dL_law_33 (by decide) (by decide) (by decide) (by decide) ?_
                                                                                      exact law_back hL hC hX hbl hSt_back n j x3 ej hj6 σ μ hRe cells slots hc1 hc2 H locs ls hH hl hgo
                                                                                    · skip
                                                                                      by_cases c40 : v = (40 : Int32)
                                                                                      · refine lv_tsw (tgt := 1372) (off := 1339) hx hb (40) c40 dL_law_33 (by decide) (by decide) (by decide) (by decide) ?_
                                                                                        exact law_count hL hC hX hbl hSt_count n j x3 ej hj6 σ μ hRe cells slots hc1 hc2 H locs ls hH hl hgo
                                                                                      · skip
                                                                                        refine lv_tswd (tgt := 1395) hx hb [0, 1, 2, 3, 4, 5, 6, 7, 8, 9, 10, 11, 12, 13, 14, 15, 16, 17, 18, 19, 20, 21, 22, 23, 24, 25, 26, 27, 28, 29, 30, 31, 32, 33, 34, 35, 36, 37, 38, 39, 40] (by simp only [List.mem_cons, List.not_mem_nil, or_false]; intro z hz; rcases hz with rfl | rfl | rfl | rfl | rfl | rfl | rfl | rfl | rfl | rfl | rfl | rfl | rfl | rfl | rfl | rfl | rfl | rfl | rfl | rfl | rfl | rfl | rfl | rfl | rfl | rfl | rfl | rfl | rfl | rfl | rfl | rfl | rfl | rfl | rfl | rfl | rfl | rfl | rfl | rfl | rfl <;> first | exact i32ne c0 (by decide) | exact i32ne c1 (by decide) | exact i32ne c2 (by decide) | exact i32ne c3 (by decide) | exact i32ne c4 (by decide) | exact i32ne c5 (by decide) | exact i32ne c6 (by decide) | exact i32ne c7 (by decide) | exact i32ne c8 (by decide) | exact i32ne c9 (by decide) | exact i32ne c10 (by decide) | exact i32ne c11 (by decide) | exact i32ne c12 (by decide) | exact i32ne c13 (by decide) | exact i32ne c14 (by decide) | exact i32ne c15 (by decide) | exact i32ne c16 (by decide) | exact i32ne c17 (by decide) | exact i32ne c18 (by decide) | exact i32ne c19 (by decide) | exact i32ne c20 (by decide) | exact i32ne c21 (by decide) | exact i32ne c22 (by decide) | exact i32ne c23 (by decide) | exact i32ne c24 (by decide) | exact i32ne c25 (by decide) | exact i32ne c26 (by decide) | exact i32ne c27 (by decide) | exact i32ne c28 (by decide) | exact i32ne c29 (by decide) | exact i32ne c30 (by decide) | exact i32ne c31 (by decide) | exact i32ne c32 (by decide) | exact i32ne c33 (by decide) | exact i32ne c34 (by decide) | exact i32ne c35 (by decide) | exact i32ne c36 (by decide) | exact i32ne c37 (by decide) | exact i32ne c38 (by decide) | exact i32ne c39 (by decide) | exact i32ne c40 (by decide)) dL_law_33 (by decide) (by decide) (by decide) ?_
                                                                                        exact hgo σ μ hRe cells slots (by omega) (by omega) H locs ls hH hl
