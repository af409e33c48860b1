section LV
variable {G : zG} {d : Nat} {Q : zV → zM → Prop} {nm : String}
set_option maxRecDepth 20000 in
set_option maxHeartbeats 4000000 in
theorem lw_loop (hG : zP G) (hL : (G.2.2.2.2.2.1 (0 : Int).toNat).1 ≤ 3072) (hq : ∀ M', Q (0, 1) M') : ∀ (j : Nat) (i : Int) (M : zM), (0 ≤ i ∧ i ≤ ((G.2.2.2.2.2.1 (0 : Int).toNat).1 : Int)) → ((G.2.2.2.2.2.1 (0 : Int).toNat).1 : Int) - i ≤ j → zJ M → M 2 10 ≤ 2 + 100 * i → Y G (d + 400 + 1) (mLw nm) 18 [(4, 0), (2, 1), (2, 234), (0, i)] [] M Q := by
  intro j
  induction j with
  | zero =>
    intro i M hi hj hJ hv
    refine z_iloadn dL_law_18 rfl ?_
    refine z_aloadn dL_law_19 rfl (Or.inr rfl) ?_
    refine z_alenx dL_law_20 (by decide) (by omega) ?_
    refine z_bipush dL_law_21 kb_6 ?_
    refine z_isub dL_law_23 ⟨by omega, by omega⟩ ?_
    refine z_icmpgt (tgt := 1622) dL_law_24 rfl (fun _ => ?_) (fun q => absurd q (by omega))
    refine z_iconst dL_law_1622 ki_1 ?_
    exact z_ireturn dL_law_1623 (Or.inr ⟨rfl, by decide, by decide⟩) rfl (hq M)
  | succ j ih =>
    intro i M hi hj hJ hv
    refine z_iloadn dL_law_18 rfl ?_
    refine z_aloadn dL_law_19 rfl (Or.inr rfl) ?_
    refine z_alenx dL_law_20 (by decide) (by omega) ?_
    refine z_bipush dL_law_21 kb_6 ?_
    refine z_isub dL_law_23 ⟨by omega, by omega⟩ ?_
    refine z_icmpgt (tgt := 1622) dL_law_24 rfl (fun _ => ?_) (fun q0 => ?_)
    · refine z_iconst dL_law_1622 ki_1 ?_
      exact z_ireturn dL_law_1623 (Or.inr ⟨rfl, by decide, by decide⟩) rfl (hq M)
    have hi6 : 0 ≤ i ∧ i + 6 ≤ ((G.2.2.2.2.2.1 (0 : Int).toNat).1 : Int) := by omega
    have hv6 : M 2 10 ≤ 1000000 := by omega
    have hk : ∀ M2, zJn M M2 → Y G (d + 400 + 1) (mLw nm) 1616 [(4, 0), (2, 1), (2, 234), (0, i)] [] M2 Q := fun M2 hn => by
      have hn2 := hn.2
      refine y_iinc (ls' := [(4, 0), (2, 1), (2, 234), (0, i + 6)]) dL_law_1616 rfl rfl ⟨by omega, by omega⟩ rfl ?_
      refine z_goto (tgt := 18) dL_law_1619 rfl ?_
      exact ih (i + 6) M2 ⟨by omega, by omega⟩ (by omega) hn.1 (by omega)
    refine z_aloadn dL_law_27 rfl (Or.inr rfl) ?_
    refine z_iloadn dL_law_28 rfl ?_
    refine z_ialdx dL_law_29 (by decide) ⟨by omega, by omega, by omega⟩ ?_
    refine z_bipush dL_law_30 kb_63 ?_
    refine z_iand dL_law_32 ?_
    generalize zand (lS G i) 63 = v
    rcases (show v < 0 ∨ 44 < v ∨ v = 0 ∨ v = 1 ∨ v = 2 ∨ v = 3 ∨ v = 4 ∨ v = 5 ∨ v = 6 ∨ v = 7 ∨ v = 8 ∨ v = 9 ∨ v = 10 ∨ v = 11 ∨ v = 12 ∨ v = 13 ∨ v = 14 ∨ v = 15 ∨ v = 16 ∨ v = 17 ∨ v = 18 ∨ v = 19 ∨ v = 20 ∨ v = 21 ∨ v = 22 ∨ v = 23 ∨ v = 24 ∨ v = 25 ∨ v = 26 ∨ v = 27 ∨ v = 28 ∨ v = 29 ∨ v = 30 ∨ v = 31 ∨ v = 32 ∨ v = 33 ∨ v = 34 ∨ v = 35 ∨ v = 36 ∨ v = 37 ∨ v = 38 ∨ v = 39 ∨ v = 40 ∨ v = 41 ∨ v = 42 ∨ v = 43 ∨ v = 44 by omega) with q | q | q | q | q | q | q | q | q | q | q | q | q | q | q | q | q | q | q | q | q | q | q | q | q | q | q | q | q | q | q | q | q | q | q | q | q | q | q | q | q | q | q | q | q | q | q
    · exact z_tswOut (tgt := 1616) dL_law_33 (Or.inl q) rfl (hk M (zJ_rf hJ))
    · exact z_tswOut (tgt := 1616) dL_law_33 (Or.inr q) rfl (hk M (zJ_rf hJ))
    · exact y_tsw (tgt := 228) (k := 0) dL_law_33 q (by decide) rfl rfl (lc_0 hG hJ hv6 hi6 hL hk)
    · exact y_tsw (tgt := 261) (k := 1) dL_law_33 q (by decide) rfl rfl (lc_1 hG hJ hv6 hi6 hL hk)
    · exact y_tsw (tgt := 304) (k := 2) dL_law_33 q (by decide) rfl rfl (lc_2 hG hJ hv6 hi6 hL hk)
    · exact y_tsw (tgt := 347) (k := 3) dL_law_33 q (by decide) rfl rfl (lc_3 hG hJ hv6 hi6 hL hk)
    · exact y_tsw (tgt := 380) (k := 4) dL_law_33 q (by decide) rfl rfl (lc_4 hG hJ hv6 hi6 hL hk)
    · exact y_tsw (tgt := 413) (k := 5) dL_law_33 q (by decide) rfl rfl (lc_5 hG hJ hv6 hi6 hL hk)
    · exact y_tsw (tgt := 476) (k := 6) dL_law_33 q (by decide) rfl rfl (lc_6 hG hJ hv6 hi6 hL hk)
    · exact y_tsw (tgt := 499) (k := 7) dL_law_33 q (by decide) rfl rfl (lc_7 hG hJ hv6 hi6 hL hk)
    · exact y_tsw (tgt := 512) (k := 8) dL_law_33 q (by decide) rfl rfl (lc_8 hG hJ hv6 hi6 hL hk)
    · exact y_tsw (tgt := 535) (k := 9) dL_law_33 q (by decide) rfl rfl (lc_9 hG hJ hv6 hi6 hL hk)
    · exact y_tsw (tgt := 558) (k := 10) dL_law_33 q (by decide) rfl rfl (lc_10 hG hJ hv6 hi6 hL hk)
    · exact y_tsw (tgt := 581) (k := 11) dL_law_33 q (by decide) rfl rfl (lc_11 hG hJ hv6 hi6 hL hk)
    · exact y_tsw (tgt := 644) (k := 12) dL_law_33 q (by decide) rfl rfl (lc_12 hG hJ hv6 hi6 hL hk)
    · exact y_tsw (tgt := 667) (k := 13) dL_law_33 q (by decide) rfl rfl (lc_13 hG hJ hv6 hi6 hL hk)
    · exact y_tsw (tgt := 700) (k := 14) dL_law_33 q (by decide) rfl rfl (lc_14 hG hJ hv6 hi6 hL hk)
    · exact y_tsw (tgt := 733) (k := 15) dL_law_33 q (by decide) rfl rfl (lc_15 hG hJ hv6 hi6 hL hk)
    · exact y_tsw (tgt := 766) (k := 16) dL_law_33 q (by decide) rfl rfl (lc_16 hG hJ hv6 hi6 hL hk)
    · exact y_tsw (tgt := 809) (k := 17) dL_law_33 q (by decide) rfl rfl (lc_17 hG hJ hv6 hi6 hL hk)
    · exact y_tsw (tgt := 842) (k := 18) dL_law_33 q (by decide) rfl rfl (lc_18 hG hJ hv6 hi6 hL hk)
    · exact y_tsw (tgt := 875) (k := 19) dL_law_33 q (by decide) rfl rfl (lc_19 hG hJ hv6 hi6 hL hk)
    · exact y_tsw (tgt := 908) (k := 20) dL_law_33 q (by decide) rfl rfl (lc_20 hG hJ hv6 hi6 hL hk)
    · exact y_tsw (tgt := 941) (k := 21) dL_law_33 q (by decide) rfl rfl (lc_21 hG hJ hv6 hi6 hL hk)
    · exact y_tsw (tgt := 964) (k := 22) dL_law_33 q (by decide) rfl rfl (lc_22 hG hJ hv6 hi6 hL hk)
    · exact y_tsw (tgt := 987) (k := 23) dL_law_33 q (by decide) rfl rfl (lc_23 hG hJ hv6 hi6 hL hk)
    · exact y_tsw (tgt := 1000) (k := 24) dL_law_33 q (by decide) rfl rfl (lc_24 hG hJ hv6 hi6 hL hk)
    · exact y_tsw (tgt := 1013) (k := 25) dL_law_33 q (by decide) rfl rfl (lc_25 hG hJ hv6 hi6 hL hk)
    · exact y_tsw (tgt := 1062) (k := 26) dL_law_33 q (by decide) rfl rfl (lc_26 hG hJ hv6 hi6 hL hk)
    · exact y_tsw (tgt := 1085) (k := 27) dL_law_33 q (by decide) rfl rfl (lc_27 hG hJ hv6 hi6 hL hk)
    · exact y_tsw (tgt := 1098) (k := 28) dL_law_33 q (by decide) rfl rfl (lc_28 hG hJ hv6 hi6 hL hk)
    · exact y_tsw (tgt := 1157) (k := 29) dL_law_33 q (by decide) rfl rfl (lc_29 hG hJ hv6 hi6 hL hk)
    · exact y_tsw (tgt := 1180) (k := 30) dL_law_33 q (by decide) rfl rfl (lc_30 hG hJ hv6 hi6 hL hk)
    · exact y_tsw (tgt := 1224) (k := 31) dL_law_33 q (by decide) rfl rfl (lc_31 hG hJ hv6 hi6 hL hk)
    · exact y_tsw (tgt := 1257) (k := 32) dL_law_33 q (by decide) rfl rfl (lc_32 hG hJ hv6 hi6 hL hk)
    · exact y_tsw (tgt := 1300) (k := 33) dL_law_33 q (by decide) rfl rfl (lc_33 hG hJ hv6 hi6 hL hk)
    · exact y_tsw (tgt := 1353) (k := 34) dL_law_33 q (by decide) rfl rfl (lc_34 hG hJ hv6 hi6 hL hk)
    · exact y_tsw (tgt := 1396) (k := 35) dL_law_33 q (by decide) rfl rfl (lc_35 hG hJ hv6 hi6 hL hk)
    · exact y_tsw (tgt := 1429) (k := 36) dL_law_33 q (by decide) rfl rfl (lc_36 hG hJ hv6 hi6 hL hk)
    · exact y_tsw (tgt := 1462) (k := 37) dL_law_33 q (by decide) rfl rfl (lc_37 hG hJ hv6 hi6 hL hk)
    · exact y_tsw (tgt := 1485) (k := 38) dL_law_33 q (by decide) rfl rfl (lc_38 hG hJ hv6 hi6 hL hk)
    · exact y_tsw (tgt := 1508) (k := 39) dL_law_33 q (by decide) rfl rfl (lc_39 hG hJ hv6 hi6 hL hk)
    · exact y_tsw (tgt := 1541) (k := 40) dL_law_33 q (by decide) rfl rfl (lc_40 hG hJ hv6 hi6 hL hk)
    · exact y_tsw (tgt := 1554) (k := 41) dL_law_33 q (by decide) rfl rfl (lc_41 hG hJ hv6 hi6 hL hk)
    · exact y_tsw (tgt := 1567) (k := 42) dL_law_33 q (by decide) rfl rfl (lc_42 hG hJ hv6 hi6 hL hk)
    · exact y_tsw (tgt := 1580) (k := 43) dL_law_33 q (by decide) rfl rfl (lc_43 hG hJ hv6 hi6 hL hk)
    · exact y_tsw (tgt := 1593) (k := 44) dL_law_33 q (by decide) rfl rfl (lc_44 hG hJ hv6 hi6 hL hk)
set_option maxRecDepth 20000 in
set_option maxHeartbeats 4000000 in
theorem lw_body (h0 : ∀ a i, G.2.2.2.2.2.2 a i = 0) (hP : zP (kG G zfx)) (hL : (G.2.2.2.2.2.1 (0 : Int).toNat).1 ≤ 3072) (hq : ∀ M', Q (0, 1) M') : Z G (d + 400 + 1) (mLw nm) 0 [(4, 0), (9, 0), (9, 0), (9, 0)] [] 0 267 (fun _ _ => 0) Q := by
  refine z_new dL_law_0 nL_7 (by decide +kernel) (by decide) (fun y => rfl) (by decide) ?_
  show Z G (d + 400 + 1) (mLw nm) 3 [(4, 0), (9, 0), (9, 0), (9, 0)] [(2, 1)] 1 267 (fun _ _ => 0) Q
  refine z_dup dL_law_3 (show (2 : Nat) ≠ 1 by decide) ?_
  refine k_ci (mt2 := mX11_init) (b := 1) (as := []) (st := [(2, 1)]) (n2 := 233) (en := [(2, 1), (9, 0)]) dL_law_4 lL_9 kX11_init iX11_init rfl rfl rfl (by decide) (Nat.le_of_ble_eq_true rfl) (Nat.le_of_ble_eq_true rfl) ⟨by decide, by decide⟩ rfl (k_X11 (d := d + 396) h0 (fun a y h => rfl) (fun M hw => ?_))
  show Z G (d + 400 + 1) (mLw nm) 7 [(4, 0), (9, 0), (9, 0), (9, 0)] [(2, 1)] 233 267 (kq zfx M 1 18 12 233 10 4) Q
  refine y_astoren (ls' := [(4, 0), (2, 1), (9, 0), (9, 0)]) dL_law_7 rfl (Or.inl rfl) rfl ?_
  refine z_new dL_law_8 nL_10 (by decide +kernel) (by decide) (fun y => kq_11z hw (fun a y h => rfl) (by decide)) (by decide) ?_
  show Z G (d + 400 + 1) (mLw nm) 11 [(4, 0), (2, 1), (9, 0), (9, 0)] [(2, 234)] 234 267 (kq zfx M 1 18 12 233 10 4) Q
  refine z_dup dL_law_11 (show (2 : Nat) ≠ 1 by decide) ?_
  refine k_ci (mt2 := mX12_init) (b := 234) (as := []) (st := [(2, 234)]) (n2 := 267) (en := [(2, 234)]) dL_law_12 lL_12 kX12_init iX12_init rfl rfl rfl (by decide) (Nat.le_of_ble_eq_true rfl) (Nat.le_of_ble_eq_true rfl) ⟨by decide, by decide⟩ rfl (k_X12 (d := d + 399) h0 hP (fun a y h => kq_11z hw (fun a y h => rfl) h) (kq_11b hw) (fun g hg => ?_))
  have hI := kI_of hw hg
  generalize zrow (kq_f kX (kq zfx M 1 18 12 233 10 4) 234 267) 236 g = M2 at hI
  show Z G (d + 400 + 1) (mLw nm) 15 [(4, 0), (2, 1), (9, 0), (9, 0)] [(2, 234)] 267 267 M2 Q
  refine y_astoren (ls' := [(4, 0), (2, 1), (2, 234), (9, 0)]) dL_law_15 rfl (Or.inl rfl) rfl ?_
  refine z_iconst dL_law_16 ki_0 ?_
  refine y_istoren (ls' := [(4, 0), (2, 1), (2, 234), (0, 0)]) dL_law_17 rfl rfl ?_
  refine k_sw (F := zfx) (kI_fix hI) h0 ?_
  exact lw_loop hP hL hq (G.2.2.2.2.2.1 (0 : Int).toNat).1 0 M2 ⟨by omega, by omega⟩ (by show ((G.2.2.2.2.2.1 (0 : Int).toNat).1 : Int) - 0 ≤ ((G.2.2.2.2.2.1 (0 : Int).toNat).1 : Int); omega) (kJ hI) (by rw [hI.2.1]; decide)
end LV
