theorem uX11_10 : ∃ (C : String) (T : u_T) (N : Nat), vwCl[11]? = some (C, T, N) ∧ Cond.fieldLink RX11 10 (T 0).1 (T 0).2.1 (T 0).2.2.1 ∈ zTs := ⟨RX11, TX11, 10, rfl, zT_2 (i := 239) (by decide +kernel) rfl⟩
theorem uX11_19 : ∃ (C : String) (T : u_T) (N : Nat), vwCl[11]? = some (C, T, N) ∧ Cond.fieldLink RX11 19 (T 1).1 (T 1).2.1 (T 1).2.2.1 ∈ zTs := ⟨RX11, TX11, 10, rfl, zT_3 (i := 0) (by decide +kernel) rfl⟩
theorem uX11_25 : ∃ (C : String) (T : u_T) (N : Nat), vwCl[11]? = some (C, T, N) ∧ Cond.fieldLink RX11 25 (T 2).1 (T 2).2.1 (T 2).2.2.1 ∈ zTs := ⟨RX11, TX11, 10, rfl, zT_3 (i := 1) (by decide +kernel) rfl⟩
theorem uX11_32 : ∃ (C : String) (T : u_T) (N : Nat), vwCl[11]? = some (C, T, N) ∧ Cond.fieldLink RX11 32 (T 4).1 (T 4).2.1 (T 4).2.2.1 ∈ zTs := ⟨RX11, TX11, 10, rfl, zT_3 (i := 3) (by decide +kernel) rfl⟩
theorem uX11_39 : ∃ (C : String) (T : u_T) (N : Nat), vwCl[11]? = some (C, T, N) ∧ Cond.fieldLink RX11 39 (T 5).1 (T 5).2.1 (T 5).2.2.1 ∈ zTs := ⟨RX11, TX11, 10, rfl, zT_3 (i := 4) (by decide +kernel) rfl⟩
theorem uX11_46 : ∃ (C : String) (T : u_T) (N : Nat), vwCl[11]? = some (C, T, N) ∧ Cond.fieldLink RX11 46 (T 6).1 (T 6).2.1 (T 6).2.2.1 ∈ zTs := ⟨RX11, TX11, 10, rfl, zT_3 (i := 5) (by decide +kernel) rfl⟩
theorem uX11_53 : ∃ (C : String) (T : u_T) (N : Nat), vwCl[11]? = some (C, T, N) ∧ Cond.fieldLink RX11 53 (T 7).1 (T 7).2.1 (T 7).2.2.1 ∈ zTs := ⟨RX11, TX11, 10, rfl, zT_3 (i := 6) (by decide +kernel) rfl⟩
theorem uX11_60 : ∃ (C : String) (T : u_T) (N : Nat), vwCl[11]? = some (C, T, N) ∧ Cond.fieldLink RX11 60 (T 8).1 (T 8).2.1 (T 8).2.2.1 ∈ zTs := ⟨RX11, TX11, 10, rfl, zT_3 (i := 7) (by decide +kernel) rfl⟩
theorem uX11_67 : ∃ (C : String) (T : u_T) (N : Nat), vwCl[11]? = some (C, T, N) ∧ Cond.fieldLink RX11 67 (T 9).1 (T 9).2.1 (T 9).2.2.1 ∈ zTs := ⟨RX11, TX11, 10, rfl, zT_3 (i := 8) (by decide +kernel) rfl⟩
theorem uX12_7 : ∃ (C : String) (T : u_T) (N : Nat), vwCl[12]? = some (C, T, N) ∧ Cond.fieldLink RX12 7 (T 0).1 (T 0).2.1 (T 0).2.2.1 ∈ zTs := ⟨RX12, TX12, 53, rfl, zT_7 (i := 87) (by decide +kernel) rfl⟩
theorem uX12_13 : ∃ (C : String) (T : u_T) (N : Nat), vwCl[12]? = some (C, T, N) ∧ Cond.fieldLink RX12 13 (T 1).1 (T 1).2.1 (T 1).2.2.1 ∈ zTs := ⟨RX12, TX12, 53, rfl, zT_7 (i := 88) (by decide +kernel) rfl⟩
theorem uX12_16 : ∃ (C : String) (T : u_T) (N : Nat), vwCl[12]? = some (C, T, N) ∧ Cond.fieldLink RX12 16 (T 2).1 (T 2).2.1 (T 2).2.2.1 ∈ zTs := ⟨RX12, TX12, 53, rfl, zT_7 (i := 89) (by decide +kernel) rfl⟩
theorem uX12_19 : ∃ (C : String) (T : u_T) (N : Nat), vwCl[12]? = some (C, T, N) ∧ Cond.fieldLink RX12 19 (T 3).1 (T 3).2.1 (T 3).2.2.1 ∈ zTs := ⟨RX12, TX12, 53, rfl, zT_7 (i := 90) (by decide +kernel) rfl⟩
theorem uX12_22 : ∃ (C : String) (T : u_T) (N : Nat), vwCl[12]? = some (C, T, N) ∧ Cond.fieldLink RX12 22 (T 4).1 (T 4).2.1 (T 4).2.2.1 ∈ zTs := ⟨RX12, TX12, 53, rfl, zT_7 (i := 91) (by decide +kernel) rfl⟩
theorem uX12_32 : ∃ (C : String) (T : u_T) (N : Nat), vwCl[12]? = some (C, T, N) ∧ Cond.fieldLink RX12 32 (T 13).1 (T 13).2.1 (T 13).2.2.1 ∈ zTs := ⟨RX12, TX12, 53, rfl, zT_7 (i := 100) (by decide +kernel) rfl⟩
theorem uX12_35 : ∃ (C : String) (T : u_T) (N : Nat), vwCl[12]? = some (C, T, N) ∧ Cond.fieldLink RX12 35 (T 17).1 (T 17).2.1 (T 17).2.2.1 ∈ zTs := ⟨RX12, TX12, 53, rfl, zT_7 (i := 104) (by decide +kernel) rfl⟩
theorem uX12_38 : ∃ (C : String) (T : u_T) (N : Nat), vwCl[12]? = some (C, T, N) ∧ Cond.fieldLink RX12 38 (T 18).1 (T 18).2.1 (T 18).2.2.1 ∈ zTs := ⟨RX12, TX12, 53, rfl, zT_7 (i := 105) (by decide +kernel) rfl⟩
theorem uX12_41 : ∃ (C : String) (T : u_T) (N : Nat), vwCl[12]? = some (C, T, N) ∧ Cond.fieldLink RX12 41 (T 19).1 (T 19).2.1 (T 19).2.2.1 ∈ zTs := ⟨RX12, TX12, 53, rfl, zT_7 (i := 106) (by decide +kernel) rfl⟩
theorem uX12_44 : ∃ (C : String) (T : u_T) (N : Nat), vwCl[12]? = some (C, T, N) ∧ Cond.fieldLink RX12 44 (T 20).1 (T 20).2.1 (T 20).2.2.1 ∈ zTs := ⟨RX12, TX12, 53, rfl, zT_7 (i := 107) (by decide +kernel) rfl⟩
theorem uX12_47 : ∃ (C : String) (T : u_T) (N : Nat), vwCl[12]? = some (C, T, N) ∧ Cond.fieldLink RX12 47 (T 21).1 (T 21).2.1 (T 21).2.2.1 ∈ zTs := ⟨RX12, TX12, 53, rfl, zT_7 (i := 108) (by decide +kernel) rfl⟩
theorem uX12_50 : ∃ (C : String) (T : u_T) (N : Nat), vwCl[12]? = some (C, T, N) ∧ Cond.fieldLink RX12 50 (T 28).1 (T 28).2.1 (T 28).2.2.1 ∈ zTs := ⟨RX12, TX12, 53, rfl, zT_7 (i := 115) (by decide +kernel) rfl⟩
theorem uX12_53 : ∃ (C : String) (T : u_T) (N : Nat), vwCl[12]? = some (C, T, N) ∧ Cond.fieldLink RX12 53 (T 29).1 (T 29).2.1 (T 29).2.2.1 ∈ zTs := ⟨RX12, TX12, 53, rfl, zT_7 (i := 116) (by decide +kernel) rfl⟩
theorem uX12_56 : ∃ (C : String) (T : u_T) (N : Nat), vwCl[12]? = some (C, T, N) ∧ Cond.fieldLink RX12 56 (T 30).1 (T 30).2.1 (T 30).2.2.1 ∈ zTs := ⟨RX12, TX12, 53, rfl, zT_7 (i := 117) (by decide +kernel) rfl⟩
theorem uX12_59 : ∃ (C : String) (T : u_T) (N : Nat), vwCl[12]? = some (C, T, N) ∧ Cond.fieldLink RX12 59 (T 31).1 (T 31).2.1 (T 31).2.2.1 ∈ zTs := ⟨RX12, TX12, 53, rfl, zT_7 (i := 118) (by decide +kernel) rfl⟩
theorem uX12_62 : ∃ (C : String) (T : u_T) (N : Nat), vwCl[12]? = some (C, T, N) ∧ Cond.fieldLink RX12 62 (T 32).1 (T 32).2.1 (T 32).2.2.1 ∈ zTs := ⟨RX12, TX12, 53, rfl, zT_7 (i := 119) (by decide +kernel) rfl⟩
theorem uX12_66 : ∃ (C : String) (T : u_T) (N : Nat), vwCl[12]? = some (C, T, N) ∧ Cond.fieldLink RX12 66 (T 33).1 (T 33).2.1 (T 33).2.2.1 ∈ zTs := ⟨RX12, TX12, 53, rfl, zT_7 (i := 120) (by decide +kernel) rfl⟩
theorem uX12_69 : ∃ (C : String) (T : u_T) (N : Nat), vwCl[12]? = some (C, T, N) ∧ Cond.fieldLink RX12 69 (T 34).1 (T 34).2.1 (T 34).2.2.1 ∈ zTs := ⟨RX12, TX12, 53, rfl, zT_7 (i := 121) (by decide +kernel) rfl⟩
theorem uX12_72 : ∃ (C : String) (T : u_T) (N : Nat), vwCl[12]? = some (C, T, N) ∧ Cond.fieldLink RX12 72 (T 35).1 (T 35).2.1 (T 35).2.2.1 ∈ zTs := ⟨RX12, TX12, 53, rfl, zT_7 (i := 122) (by decide +kernel) rfl⟩
theorem uX12_75 : ∃ (C : String) (T : u_T) (N : Nat), vwCl[12]? = some (C, T, N) ∧ Cond.fieldLink RX12 75 (T 37).1 (T 37).2.1 (T 37).2.2.1 ∈ zTs := ⟨RX12, TX12, 53, rfl, zT_7 (i := 124) (by decide +kernel) rfl⟩
theorem uX12_78 : ∃ (C : String) (T : u_T) (N : Nat), vwCl[12]? = some (C, T, N) ∧ Cond.fieldLink RX12 78 (T 38).1 (T 38).2.1 (T 38).2.2.1 ∈ zTs := ⟨RX12, TX12, 53, rfl, zT_7 (i := 125) (by decide +kernel) rfl⟩
theorem uX12_81 : ∃ (C : String) (T : u_T) (N : Nat), vwCl[12]? = some (C, T, N) ∧ Cond.fieldLink RX12 81 (T 39).1 (T 39).2.1 (T 39).2.2.1 ∈ zTs := ⟨RX12, TX12, 53, rfl, zT_7 (i := 126) (by decide +kernel) rfl⟩
theorem uX12_84 : ∃ (C : String) (T : u_T) (N : Nat), vwCl[12]? = some (C, T, N) ∧ Cond.fieldLink RX12 84 (T 41).1 (T 41).2.1 (T 41).2.2.1 ∈ zTs := ⟨RX12, TX12, 53, rfl, zT_7 (i := 128) (by decide +kernel) rfl⟩
theorem uX12_87 : ∃ (C : String) (T : u_T) (N : Nat), vwCl[12]? = some (C, T, N) ∧ Cond.fieldLink RX12 87 (T 42).1 (T 42).2.1 (T 42).2.2.1 ∈ zTs := ⟨RX12, TX12, 53, rfl, zT_7 (i := 129) (by decide +kernel) rfl⟩
theorem uX12_91 : ∃ (C : String) (T : u_T) (N : Nat), vwCl[12]? = some (C, T, N) ∧ Cond.fieldLink RX12 91 (T 43).1 (T 43).2.1 (T 43).2.2.1 ∈ zTs := ⟨RX12, TX12, 53, rfl, zT_7 (i := 130) (by decide +kernel) rfl⟩
theorem uX12_94 : ∃ (C : String) (T : u_T) (N : Nat), vwCl[12]? = some (C, T, N) ∧ Cond.fieldLink RX12 94 (T 44).1 (T 44).2.1 (T 44).2.2.1 ∈ zTs := ⟨RX12, TX12, 53, rfl, zT_7 (i := 131) (by decide +kernel) rfl⟩
theorem uX12_97 : ∃ (C : String) (T : u_T) (N : Nat), vwCl[12]? = some (C, T, N) ∧ Cond.fieldLink RX12 97 (T 45).1 (T 45).2.1 (T 45).2.2.1 ∈ zTs := ⟨RX12, TX12, 53, rfl, zT_7 (i := 132) (by decide +kernel) rfl⟩
theorem uX12_100 : ∃ (C : String) (T : u_T) (N : Nat), vwCl[12]? = some (C, T, N) ∧ Cond.fieldLink RX12 100 (T 46).1 (T 46).2.1 (T 46).2.2.1 ∈ zTs := ⟨RX12, TX12, 53, rfl, zT_7 (i := 133) (by decide +kernel) rfl⟩
theorem uX12_103 : ∃ (C : String) (T : u_T) (N : Nat), vwCl[12]? = some (C, T, N) ∧ Cond.fieldLink RX12 103 (T 47).1 (T 47).2.1 (T 47).2.2.1 ∈ zTs := ⟨RX12, TX12, 53, rfl, zT_7 (i := 134) (by decide +kernel) rfl⟩
theorem uX12_106 : ∃ (C : String) (T : u_T) (N : Nat), vwCl[12]? = some (C, T, N) ∧ Cond.fieldLink RX12 106 (T 48).1 (T 48).2.1 (T 48).2.2.1 ∈ zTs := ⟨RX12, TX12, 53, rfl, zT_7 (i := 135) (by decide +kernel) rfl⟩
theorem uX12_109 : ∃ (C : String) (T : u_T) (N : Nat), vwCl[12]? = some (C, T, N) ∧ Cond.fieldLink RX12 109 (T 49).1 (T 49).2.1 (T 49).2.2.1 ∈ zTs := ⟨RX12, TX12, 53, rfl, zT_7 (i := 136) (by decide +kernel) rfl⟩
theorem uX12_112 : ∃ (C : String) (T : u_T) (N : Nat), vwCl[12]? = some (C, T, N) ∧ Cond.fieldLink RX12 112 (T 50).1 (T 50).2.1 (T 50).2.2.1 ∈ zTs := ⟨RX12, TX12, 53, rfl, zT_7 (i := 137) (by decide +kernel) rfl⟩
theorem uX12_115 : ∃ (C : String) (T : u_T) (N : Nat), vwCl[12]? = some (C, T, N) ∧ Cond.fieldLink RX12 115 (T 51).1 (T 51).2.1 (T 51).2.2.1 ∈ zTs := ⟨RX12, TX12, 53, rfl, zT_7 (i := 138) (by decide +kernel) rfl⟩
section KM
variable {G : zG} {d : Nat} {M : zM} {Q : zV → zM → Prop}
set_option maxRecDepth 20000 in
set_option maxHeartbeats 4000000 in
theorem k_X11L (h0 : ∀ a i, G.2.2.2.2.2.2 a i = 0) (hM : ∀ a y, (12 : Int) ≤ a → M a y = 0) : ∀ (j c : Nat), c + j = 4 → Q (9, 0) (kq zfx M 1 18 12 233 10 4) → Z G (d + 4) mX11_init 102 [(2, 1), (0, (c : Int))] [] (185 + 12 * c) 233 (kq zfx M 1 18 12 ((185 + 12 * c : Nat) : Int) 10 (c : Int)) Q
  | 0, c, hc, hq => by
    have e : c = 4 := by omega
    subst e
    refine z_iloadn dX11_init_102 rfl ?_
    refine z_iconst (k := 4) dX11_init_103 ⟨by decide, by decide⟩ ?_
    refine z_icmpge (tgt := 126) dX11_init_104 rfl (fun _ => ?_) (fun q => absurd q (by decide))
    exact z_return dX11_init_126 rfl rfl hq
  | j + 1, c, hc, hq => by
    have hi : 0 ≤ (c : Int) ∧ (c : Int) < 4 := by omega
    have at1 := sc_at hi
    have hnd : zSC ((186 + 12 * c : Nat) : Int) := by have q := at1.2.2; rw [show (186 : Int) + 12 * (c : Int) = ((186 + 12 * c : Nat) : Int) by omega] at q; exact q
    have hsh : zsh (185 + 12 * c + 1) = (7, 5) := by have q := sc_0 hnd; rw [show ((186 + 12 * c : Nat) : Int).toNat = 185 + 12 * c + 1 by omega] at q; exact q
    have hne : ((185 + 12 * c + 1 : Nat) : Int) = ((186 + 12 * c : Nat) : Int) := by omega
    refine z_iloadn dX11_init_102 rfl ?_
    refine z_iconst (k := 4) dX11_init_103 ⟨by decide, by decide⟩ ?_
    refine z_icmpge (tgt := 126) dX11_init_104 rfl (fun q => absurd q (by omega)) (fun _ => ?_)
    refine z_aloadn dX11_init_107 rfl (Or.inl rfl) ?_
    refine k_getr (k := 2) (v := 18) dX11_init_108 fX11_25 sh1 (by decide) rfl ⟨by decide, by omega⟩ ((kq_at (j := 2) (by decide)).trans (by decide +kernel)) ?_
    refine z_iloadn dX11_init_111 rfl ?_
    refine z_new dX11_init_112 nX11_23 hsh (by decide) (fun y => kq_fr (n' := ((185 + 12 * c + 1 : Nat) : Int)) hM (by omega) (by omega) (by omega) (Or.inl (by omega)) _ y (Int.le_refl _)) (by omega) ?_
    refine z_dup dX11_init_115 (show (2 : Nat) ≠ 1 by decide) ?_
    rw [hne]
    have hnn : 185 + 12 * c + 1 = 186 + 12 * c := by omega
    show Z G (d + 4) mX11_init 116 [(2, 1), (0, (c : Int))] ((2, ((186 + 12 * c : Nat) : Int)) :: [(2, ((186 + 12 * c : Nat) : Int)), (0, (c : Int)), (2, 18)]) (185 + 12 * c + 1) 233 (kq zfx M 1 18 12 ((185 + 12 * c : Nat) : Int) 10 (c : Int)) Q
    rw [hnn]
    refine k_ci (mt2 := mX7_init) (b := ((186 + 12 * c : Nat) : Int)) (as := []) (st := [(2, ((186 + 12 * c : Nat) : Int)), (0, (c : Int)), (2, 18)]) (n2 := 186 + 12 * c + 11) (en := [(2, ((186 + 12 * c : Nat) : Int))]) dX11_init_116 lX11_71 kX7_init iX7_init rfl rfl rfl (by omega) (Nat.le_of_ble_eq_true rfl) (Nat.le_of_ble_eq_true rfl) ⟨by omega, by omega⟩ rfl (k_X7 (d := d + 1) (o := 186 + 12 * c) h0 hnd (fun a y h => kq_fr (n' := ((186 + 12 * c : Nat) : Int)) hM (by omega) (by omega) (by omega) (Or.inl (by omega)) a y h) ?_)
    refine k_M (M' := kq zfx M 1 18 12 ((186 + 12 * c + 11 : Nat) : Int) 10 (c : Int)) (kq_o (by omega) (by omega) (Or.inl (by omega)) (by omega) (by omega)) ?_
    show Z G (d + 4) mX11_init 119 [(2, 1), (0, (c : Int))] [(2, ((186 + 12 * c : Nat) : Int)), (0, (c : Int)), (2, 18)] (186 + 12 * c + 11) 233 (kq zfx M 1 18 12 ((186 + 12 * c + 11 : Nat) : Int) 10 (c : Int)) Q
    refine z_aastores (v := ((186 + 12 * c : Nat) : Int)) dX11_init_119 sh18 ⟨by decide, by omega⟩ ⟨hi.1, hi.2⟩ ⟨by omega, by omega⟩ (sc_0 hnd) (h0 _ _) ?_
    refine k_M (M' := kq zfx M 1 18 12 ((186 + 12 * c + 11 : Nat) : Int) 10 ((c : Int) + 1)) (kq_pr (by decide) hi.1 (by rw [at1.1]; omega)) ?_
    refine y_iinc (ls' := [(2, 1), (0, ((c + 1 : Nat) : Int))]) dX11_init_120 rfl rfl ⟨by omega, by omega⟩ rfl ?_
    refine z_goto (tgt := 102) dX11_init_123 rfl ?_
    have en : 186 + 12 * c + 11 = 185 + 12 * (c + 1) := by omega
    rw [en]
    exact k_X11L h0 hM j (c + 1) (by omega) hq
set_option maxRecDepth 20000 in
set_option maxHeartbeats 4000000 in
theorem k_X11 {M0 : zM} (h0 : ∀ a i, G.2.2.2.2.2.2 a i = 0) (hM0 : ∀ a y, (1 : Int) ≤ a → M0 a y = 0) (hq : ∀ M, kW M0 M → Q (9, 0) (kq zfx M 1 18 12 233 10 4)) : Z G (d + 4) mX11_init 0 [(2, 1), (9, 0)] [] 1 233 M0 Q := by
  refine z_aloadn dX11_init_0 rfl (Or.inl rfl) ?_
  refine z_objinit dX11_init_1 loX11_1 oi_i (by decide) (Nat.le_of_ble_eq_true rfl) ?_
  refine z_aloadn dX11_init_4 rfl (Or.inl rfl) ?_
  refine z_new dX11_init_5 nX11_7 (by decide +kernel) (by decide) (fun y => hM0 _ y (by decide)) (by decide) ?_
  show Z G (d + 4) mX11_init 8 [(2, 1), (9, 0)] [(2, 2), (2, 1)] 2 233 M0 Q
  refine z_dup dX11_init_8 (show (2 : Nat) ≠ 1 by decide) ?_
  refine k_ci (mt2 := mX10_init) (b := 2) (as := []) (st := [(2, 2), (2, 1)]) (n2 := 11) (en := [(2, 2)]) dX11_init_9 lX11_9 kX10_init iX10_init rfl rfl rfl (by decide) (Nat.le_of_ble_eq_true rfl) (Nat.le_of_ble_eq_true rfl) ⟨by decide, by decide⟩ rfl (k_X10 h0 (fun a y h => hM0 a y (by omega)) (fun M hw => ?_))
  show Z G (d + 4) mX11_init 12 [(2, 1), (9, 0)] [(2, 2), (2, 1)] 11 233 M Q
  have hM : ∀ a y, (12 : Int) ≤ a → M a y = 0 := fun a y h => (hw.1 a y (by omega)).trans (hM0 a y (by omega))
  refine k_M (M' := kq zfx M 1 18 12 11 0 0) (kq_0 (fun y => (hw.1 1 y (by decide)).trans (hM0 1 y (by decide))) (fun y => hM _ y (by decide)) (by decide)) ?_
  refine z_putfinal (v := 2) (k := 0) dX11_init_12 fX11_10 uX11_10 sh1 (by decide) rfl r11_0 rfl ⟨by decide, by decide⟩ (by decide) (h0 _ _) ?_
  refine k_M (M' := (kq zfx M 1 18 12 11 1 0)) (kq_p (j := 0) ⟨by decide, by decide⟩ (fun i h1 h2 => absurd h2 (by omega)) (by decide +kernel)) ?_
  show Z G (d + 4) mX11_init 15 [(2, 1), (9, 0)] [] 11 233 (kq zfx M 1 18 12 11 1 0) Q
  refine z_aloadn dX11_init_15 rfl (Or.inl rfl) ?_
  refine z_new dX11_init_16 nX11_16 (by decide +kernel) (by decide) (fun y => kq_fr (n' := 12) hM (by decide) (by decide) (by decide) (Or.inr rfl) _ y (by decide)) (by decide) ?_
  show Z G (d + 4) mX11_init 19 [(2, 1), (9, 0)] [(2, 12), (2, 1)] 12 233 (kq zfx M 1 18 12 11 1 0) Q
  refine z_dup dX11_init_19 (show (2 : Nat) ≠ 1 by decide) ?_
  refine k_ci (mt2 := mX4_init) (b := 12) (as := []) (st := [(2, 12), (2, 1)]) (n2 := 17) (en := [(2, 12)]) dX11_init_20 lX11_18 kX4_init iX4_init rfl rfl rfl (by decide) (Nat.le_of_ble_eq_true rfl) (Nat.le_of_ble_eq_true rfl) ⟨by decide, by decide⟩ rfl (k_X4 (d := d + 1) h0 (fun a y h => kq_fr (n' := 12) hM (by decide) (by decide) (by decide) (Or.inr rfl) a y h) ?_)
  refine k_M (M' := (kq zfx M 1 18 12 17 1 0)) (kq_o (by decide) (by decide) (Or.inr (by decide)) (by decide) (by decide)) ?_
  show Z G (d + 4) mX11_init 23 [(2, 1), (9, 0)] [(2, 12), (2, 1)] 17 233 (kq zfx M 1 18 12 17 1 0) Q
  refine z_putfinal (v := 12) (k := 1) dX11_init_23 fX11_19 uX11_19 sh1 (by decide) rfl r11_1 rfl ⟨by decide, by decide⟩ (by decide) (h0 _ _) ?_
  refine k_M (M' := (kq zfx M 1 18 12 17 2 0)) (kq_p (j := 1) ⟨by decide, by decide⟩ (fun i h1 h2 => absurd h2 (by omega)) (by decide +kernel)) ?_
  show Z G (d + 4) mX11_init 26 [(2, 1), (9, 0)] [] 17 233 (kq zfx M 1 18 12 17 2 0) Q
  refine z_aloadn dX11_init_26 rfl (Or.inl rfl) ?_
  refine z_iconst (k := 4) dX11_init_27 ⟨by decide, by decide⟩ ?_
  refine z_anews (len := 4) dX11_init_28 clX11_23 (by decide +kernel) (fun y => kq_fr (n' := 18) hM (by decide) (by decide) (by decide) (Or.inr rfl) _ y (by decide)) (by decide) ?_
  refine k_M (M' := (kq zfx M 1 18 12 18 2 0)) (kq_nR (by decide) rfl) ?_
  show Z G (d + 4) mX11_init 31 [(2, 1), (9, 0)] [(2, 18), (2, 1)] 18 233 (kq zfx M 1 18 12 18 2 0) Q
  refine z_putfinal (v := 18) (k := 2) dX11_init_31 fX11_25 uX11_25 sh1 (by decide) rfl r11_2 rfl ⟨by decide, by decide⟩ (by decide) (h0 _ _) ?_
  refine k_M (M' := (kq zfx M 1 18 12 18 3 0)) (kq_p (j := 2) ⟨by decide, by decide⟩ (fun i h1 h2 => absurd h2 (by omega)) (by decide +kernel)) ?_
  show Z G (d + 4) mX11_init 34 [(2, 1), (9, 0)] [] 18 233 (kq zfx M 1 18 12 18 3 0) Q
  refine z_aloadn dX11_init_34 rfl (Or.inl rfl) ?_
  refine z_new dX11_init_35 nX11_29 (by decide +kernel) (by decide) (fun y => kq_fr (n' := 19) hM (by decide) (by decide) (by decide) (Or.inl (by decide)) _ y (by decide)) (by decide) ?_
  show Z G (d + 4) mX11_init 38 [(2, 1), (9, 0)] [(2, 19), (2, 1)] 19 233 (kq zfx M 1 18 12 18 3 0) Q
  refine z_dup dX11_init_38 (show (2 : Nat) ≠ 1 by decide) ?_
  refine k_ci (mt2 := mX3_init) (b := 19) (as := []) (st := [(2, 19), (2, 1)]) (n2 := 156) (en := [(2, 19), (9, 0)]) dX11_init_39 lX11_31 kX3_init iX3_init rfl rfl rfl (by decide) (Nat.le_of_ble_eq_true rfl) (Nat.le_of_ble_eq_true rfl) ⟨by decide, by decide⟩ rfl (k_X3 (d := d + 1) h0 (fun a y h => kq_fr (n' := 19) hM (by decide) (by decide) (by decide) (Or.inl (by decide)) a y h) ?_)
  refine k_M (M' := (kq zfx M 1 18 12 156 3 0)) (kq_o (by decide) (by decide) (Or.inl (by decide)) (by decide) (by decide)) ?_
  show Z G (d + 4) mX11_init 42 [(2, 1), (9, 0)] [(2, 19), (2, 1)] 156 233 (kq zfx M 1 18 12 156 3 0) Q
  refine z_putfinal (v := 19) (k := 4) dX11_init_42 fX11_32 uX11_32 sh1 (by decide) rfl r11_4 rfl ⟨by decide, by decide⟩ (by decide) (h0 _ _) ?_
  refine k_M (M' := (kq zfx M 1 18 12 156 5 0)) (kq_p (j := 4) ⟨by decide, by decide⟩ (fun i h1 h2 => by rw [show i = 3 by omega]; decide +kernel) (by decide +kernel)) ?_
  show Z G (d + 4) mX11_init 45 [(2, 1), (9, 0)] [] 156 233 (kq zfx M 1 18 12 156 5 0) Q
  refine z_aloadn dX11_init_45 rfl (Or.inl rfl) ?_
  refine z_new dX11_init_46 nX11_36 (by decide +kernel) (by decide) (fun y => kq_fr (n' := 157) hM (by decide) (by decide) (by decide) (Or.inl (by decide)) _ y (by decide)) (by decide) ?_
  show Z G (d + 4) mX11_init 49 [(2, 1), (9, 0)] [(2, 157), (2, 1)] 157 233 (kq zfx M 1 18 12 156 5 0) Q
  refine z_dup dX11_init_49 (show (2 : Nat) ≠ 1 by decide) ?_
  refine k_ci (mt2 := mX6_init) (b := 157) (as := []) (st := [(2, 157), (2, 1)]) (n2 := 164) (en := [(2, 157)]) dX11_init_50 lX11_38 kX6_init iX6_init rfl rfl rfl (by decide) (Nat.le_of_ble_eq_true rfl) (Nat.le_of_ble_eq_true rfl) ⟨by decide, by decide⟩ rfl (k_X6 (d := d + 2) h0 (fun a y h => kq_fr (n' := 157) hM (by decide) (by decide) (by decide) (Or.inl (by decide)) a y h) ?_)
  refine k_M (M' := (kq zfx M 1 18 12 164 5 0)) (kq_o (by decide) (by decide) (Or.inl (by decide)) (by decide) (by decide)) ?_
  show Z G (d + 4) mX11_init 53 [(2, 1), (9, 0)] [(2, 157), (2, 1)] 164 233 (kq zfx M 1 18 12 164 5 0) Q
  refine z_putfinal (v := 157) (k := 5) dX11_init_53 fX11_39 uX11_39 sh1 (by decide) rfl r11_5 rfl ⟨by decide, by decide⟩ (by decide) (h0 _ _) ?_
  refine k_M (M' := (kq zfx M 1 18 12 164 6 0)) (kq_p (j := 5) ⟨by decide, by decide⟩ (fun i h1 h2 => absurd h2 (by omega)) (by decide +kernel)) ?_
  show Z G (d + 4) mX11_init 56 [(2, 1), (9, 0)] [] 164 233 (kq zfx M 1 18 12 164 6 0) Q
  refine z_aloadn dX11_init_56 rfl (Or.inl rfl) ?_
  refine z_new dX11_init_57 nX11_43 (by decide +kernel) (by decide) (fun y => kq_fr (n' := 165) hM (by decide) (by decide) (by decide) (Or.inl (by decide)) _ y (by decide)) (by decide) ?_
  show Z G (d + 4) mX11_init 60 [(2, 1), (9, 0)] [(2, 165), (2, 1)] 165 233 (kq zfx M 1 18 12 164 6 0) Q
  refine z_dup dX11_init_60 (show (2 : Nat) ≠ 1 by decide) ?_
  refine k_ci (mt2 := mX2_init) (b := 165) (as := []) (st := [(2, 165), (2, 1)]) (n2 := 169) (en := [(2, 165)]) dX11_init_61 lX11_45 kX2_init iX2_init rfl rfl rfl (by decide) (Nat.le_of_ble_eq_true rfl) (Nat.le_of_ble_eq_true rfl) ⟨by decide, by decide⟩ rfl (k_X2 (d := d + 2) h0 (fun a y h => kq_fr (n' := 165) hM (by decide) (by decide) (by decide) (Or.inl (by decide)) a y h) ?_)
  refine k_M (M' := (kq zfx M 1 18 12 169 6 0)) (kq_o (by decide) (by decide) (Or.inl (by decide)) (by decide) (by decide)) ?_
  show Z G (d + 4) mX11_init 64 [(2, 1), (9, 0)] [(2, 165), (2, 1)] 169 233 (kq zfx M 1 18 12 169 6 0) Q
  refine z_putfinal (v := 165) (k := 6) dX11_init_64 fX11_46 uX11_46 sh1 (by decide) rfl r11_6 rfl ⟨by decide, by decide⟩ (by decide) (h0 _ _) ?_
  refine k_M (M' := (kq zfx M 1 18 12 169 7 0)) (kq_p (j := 6) ⟨by decide, by decide⟩ (fun i h1 h2 => absurd h2 (by omega)) (by decide +kernel)) ?_
  show Z G (d + 4) mX11_init 67 [(2, 1), (9, 0)] [] 169 233 (kq zfx M 1 18 12 169 7 0) Q
  refine z_aloadn dX11_init_67 rfl (Or.inl rfl) ?_
  refine z_new dX11_init_68 nX11_50 (by decide +kernel) (by decide) (fun y => kq_fr (n' := 170) hM (by decide) (by decide) (by decide) (Or.inl (by decide)) _ y (by decide)) (by decide) ?_
  show Z G (d + 4) mX11_init 71 [(2, 1), (9, 0)] [(2, 170), (2, 1)] 170 233 (kq zfx M 1 18 12 169 7 0) Q
  refine z_dup dX11_init_71 (show (2 : Nat) ≠ 1 by decide) ?_
  refine k_ci (mt2 := mX9_init) (b := 170) (as := []) (st := [(2, 170), (2, 1)]) (n2 := 175) (en := [(2, 170)]) dX11_init_72 lX11_52 kX9_init iX9_init rfl rfl rfl (by decide) (Nat.le_of_ble_eq_true rfl) (Nat.le_of_ble_eq_true rfl) ⟨by decide, by decide⟩ rfl (k_X9 (d := d + 2) h0 (fun a y h => kq_fr (n' := 170) hM (by decide) (by decide) (by decide) (Or.inl (by decide)) a y h) ?_)
  refine k_M (M' := (kq zfx M 1 18 12 175 7 0)) (kq_o (by decide) (by decide) (Or.inl (by decide)) (by decide) (by decide)) ?_
  show Z G (d + 4) mX11_init 75 [(2, 1), (9, 0)] [(2, 170), (2, 1)] 175 233 (kq zfx M 1 18 12 175 7 0) Q
  refine z_putfinal (v := 170) (k := 7) dX11_init_75 fX11_53 uX11_53 sh1 (by decide) rfl r11_7 rfl ⟨by decide, by decide⟩ (by decide) (h0 _ _) ?_
  refine k_M (M' := (kq zfx M 1 18 12 175 8 0)) (kq_p (j := 7) ⟨by decide, by decide⟩ (fun i h1 h2 => absurd h2 (by omega)) (by decide +kernel)) ?_
  show Z G (d + 4) mX11_init 78 [(2, 1), (9, 0)] [] 175 233 (kq zfx M 1 18 12 175 8 0) Q
  refine z_aloadn dX11_init_78 rfl (Or.inl rfl) ?_
  refine z_new dX11_init_79 nX11_57 (by decide +kernel) (by decide) (fun y => kq_fr (n' := 176) hM (by decide) (by decide) (by decide) (Or.inl (by decide)) _ y (by decide)) (by decide) ?_
  show Z G (d + 4) mX11_init 82 [(2, 1), (9, 0)] [(2, 176), (2, 1)] 176 233 (kq zfx M 1 18 12 175 8 0) Q
  refine z_dup dX11_init_82 (show (2 : Nat) ≠ 1 by decide) ?_
  refine k_ci (mt2 := mX0_init) (b := 176) (as := []) (st := [(2, 176), (2, 1)]) (n2 := 183) (en := [(2, 176)]) dX11_init_83 lX11_59 kX0_init iX0_init rfl rfl rfl (by decide) (Nat.le_of_ble_eq_true rfl) (Nat.le_of_ble_eq_true rfl) ⟨by decide, by decide⟩ rfl (k_X0 (d := d + 2) h0 (fun a y h => kq_fr (n' := 176) hM (by decide) (by decide) (by decide) (Or.inl (by decide)) a y h) ?_)
  refine k_M (M' := (kq zfx M 1 18 12 183 8 0)) (kq_o (by decide) (by decide) (Or.inl (by decide)) (by decide) (by decide)) ?_
  show Z G (d + 4) mX11_init 86 [(2, 1), (9, 0)] [(2, 176), (2, 1)] 183 233 (kq zfx M 1 18 12 183 8 0) Q
  refine z_putfinal (v := 176) (k := 8) dX11_init_86 fX11_60 uX11_60 sh1 (by decide) rfl r11_8 rfl ⟨by decide, by decide⟩ (by decide) (h0 _ _) ?_
  refine k_M (M' := (kq zfx M 1 18 12 183 9 0)) (kq_p (j := 8) ⟨by decide, by decide⟩ (fun i h1 h2 => absurd h2 (by omega)) (by decide +kernel)) ?_
  show Z G (d + 4) mX11_init 89 [(2, 1), (9, 0)] [] 183 233 (kq zfx M 1 18 12 183 9 0) Q
  refine z_aloadn dX11_init_89 rfl (Or.inl rfl) ?_
  refine z_new dX11_init_90 nX11_64 (by decide +kernel) (by decide) (fun y => kq_fr (n' := 184) hM (by decide) (by decide) (by decide) (Or.inl (by decide)) _ y (by decide)) (by decide) ?_
  show Z G (d + 4) mX11_init 93 [(2, 1), (9, 0)] [(2, 184), (2, 1)] 184 233 (kq zfx M 1 18 12 183 9 0) Q
  refine z_dup dX11_init_93 (show (2 : Nat) ≠ 1 by decide) ?_
  refine k_ci (mt2 := mX5_init) (b := 184) (as := []) (st := [(2, 184), (2, 1)]) (n2 := 185) (en := [(2, 184)]) dX11_init_94 lX11_66 kX5_init iX5_init rfl rfl rfl (by decide) (Nat.le_of_ble_eq_true rfl) (Nat.le_of_ble_eq_true rfl) ⟨by decide, by decide⟩ rfl (k_X5 (d := d + 2) h0 (fun a y h => kq_fr (n' := 184) hM (by decide) (by decide) (by decide) (Or.inl (by decide)) a y h) ?_)
  refine k_M (M' := (kq zfx M 1 18 12 185 9 0)) (kq_o (by decide) (by decide) (Or.inl (by decide)) (by decide) (by decide)) ?_
  show Z G (d + 4) mX11_init 97 [(2, 1), (9, 0)] [(2, 184), (2, 1)] 185 233 (kq zfx M 1 18 12 185 9 0) Q
  refine z_putfinal (v := 184) (k := 9) dX11_init_97 fX11_67 uX11_67 sh1 (by decide) rfl r11_9 rfl ⟨by decide, by decide⟩ (by decide) (h0 _ _) ?_
  refine k_M (M' := (kq zfx M 1 18 12 185 10 0)) (kq_p (j := 9) ⟨by decide, by decide⟩ (fun i h1 h2 => absurd h2 (by omega)) (by decide +kernel)) ?_
  show Z G (d + 4) mX11_init 100 [(2, 1), (9, 0)] [] 185 233 (kq zfx M 1 18 12 185 10 0) Q
  refine z_iconst (k := 0) dX11_init_100 ⟨by decide, by decide⟩ ?_
  refine y_istoren (ls' := [(2, 1), (0, 0)]) dX11_init_101 rfl rfl ?_
  refine k_X11L h0 hM 4 0 rfl ?_
  exact hq M hw
def kX : zM := zset (zset zfx 234 6 (-1)) 234 7 (-1)
theorem kX_off {a i : Int} (h : a ≠ 234) : kX a i = zfx a i := by
  unfold kX; rw [zset_ne (fun q => h q.1), zset_ne (fun q => h q.1)]
theorem kX_at {i : Int} (h : i ≠ 6) (h' : i ≠ 7) : kX 234 i = zfx 234 i := by
  unfold kX; rw [zset_ne (fun q => h' q.2), zset_ne (fun q => h q.2)]
theorem zfx_out {a i : Int} (h : a < 0 ∨ 267 < a) : zfx a i = 0 := by
  unfold zfx
  split
  · have e : zfxL.getD a.toNat [] = [] := by
      rw [List.getD_eq_getElem?_getD, List.getElem?_eq_none (by have : zfxL.length ≤ 268 := by decide +kernel
                                                                omega)]; rfl
    rw [e]; rfl
  · rfl
set_option maxRecDepth 20000 in
set_option maxHeartbeats 4000000 in
theorem k_X12 (h0 : ∀ a i, G.2.2.2.2.2.2 a i = 0) (hP : zP (kG G zfx)) (hM : ∀ a y, (234 : Int) ≤ a → M a y = 0) (hb : ∀ a i, a < 234 → zfx a i ≠ 0 → M a i = zfx a i) (hq : ∀ g, (∀ i, 0 ≤ i → i < 156 → g i = 0) → Q (9, 0) (zrow (kq_f kX M 234 267) 236 g)) : Z G (d + 1) mX12_init 0 [(2, 234)] [] 234 267 M Q := by
  refine k_M (M' := kq kX M 234 234 235 234 0 0) (kq_0 (fun y => hM _ y (by decide)) (fun y => hM _ y (by decide)) (by decide)) ?_
  have hM := fun (a y : Int) (h : (235 : Int) ≤ a) => hM a y (by omega)
  refine z_aloadn dX12_init_0 rfl (Or.inl rfl) ?_
  refine z_objinit dX12_init_1 loX12_1 oi_i (by decide) (Nat.le_of_ble_eq_true rfl) ?_
  refine z_aloadn dX12_init_4 rfl (Or.inl rfl) ?_
  refine z_sipush (k := 156) dX12_init_5 ⟨by decide, ⟨by decide, by decide⟩⟩ ?_
  refine z_newi (len := 156) dX12_init_8 ac_int (by decide +kernel) (fun y => kq_fr (n' := 235) hM (by decide) (by decide) (by decide) (Or.inl (by decide)) _ y (by decide)) (by decide) ?_
  refine k_M (M' := (kq kX M 234 234 235 235 0 0)) (kq_n (by decide) (fun y => hM _ y (by decide)) (fun y => (kX_off (by decide)).trans (zfx_arr sh235 (Or.inl rfl)))) ?_
  show Z G (d + 1) mX12_init 10 [(2, 234)] [(2, 235), (2, 234)] 235 267 (kq kX M 234 234 235 235 0 0) Q
  refine z_putfinal (v := 235) (k := 0) dX12_init_10 fX12_7 uX12_7 sh234 (by decide) rfl r12_0 rfl ⟨by decide, by decide⟩ (by decide) (h0 _ _) ?_
  refine k_M (M' := (kq kX M 234 234 235 235 1 0)) (kq_p (j := 0) ⟨by decide, by decide⟩ (fun i h1 h2 => absurd h2 (by omega)) (by decide +kernel)) ?_
  show Z G (d + 1) mX12_init 13 [(2, 234)] [] 235 267 (kq kX M 234 234 235 235 1 0) Q
  refine z_aloadn dX12_init_13 rfl (Or.inl rfl) ?_
  refine z_sipush (k := 156) dX12_init_14 ⟨by decide, ⟨by decide, by decide⟩⟩ ?_
  refine z_newi (len := 156) dX12_init_17 ac_int (by decide +kernel) (fun y => kq_fr (n' := 236) hM (by decide) (by decide) (by decide) (Or.inl (by decide)) _ y (by decide)) (by decide) ?_
  refine k_M (M' := (kq kX M 234 234 235 236 1 0)) (kq_n (by decide) (fun y => hM _ y (by decide)) (fun y => (kX_off (by decide)).trans (zfx_arr sh236 (Or.inl rfl)))) ?_
  show Z G (d + 1) mX12_init 19 [(2, 234)] [(2, 236), (2, 234)] 236 267 (kq kX M 234 234 235 236 1 0) Q
  refine z_putfinal (v := 236) (k := 1) dX12_init_19 fX12_13 uX12_13 sh234 (by decide) rfl r12_1 rfl ⟨by decide, by decide⟩ (by decide) (h0 _ _) ?_
  refine k_M (M' := (kq kX M 234 234 235 236 2 0)) (kq_p (j := 1) ⟨by decide, by decide⟩ (fun i h1 h2 => absurd h2 (by omega)) (by decide +kernel)) ?_
  show Z G (d + 1) mX12_init 22 [(2, 234)] [] 236 267 (kq kX M 234 234 235 236 2 0) Q
  refine z_aloadn dX12_init_22 rfl (Or.inl rfl) ?_
  refine z_bipush (k := 64) dX12_init_23 ⟨by decide, ⟨by decide, by decide⟩⟩ ?_
  refine z_newi (len := 64) dX12_init_25 ac_int (by decide +kernel) (fun y => kq_fr (n' := 237) hM (by decide) (by decide) (by decide) (Or.inl (by decide)) _ y (by decide)) (by decide) ?_
  refine k_M (M' := (kq kX M 234 234 235 237 2 0)) (kq_n (by decide) (fun y => hM _ y (by decide)) (fun y => (kX_off (by decide)).trans (zfx_arr sh237 (Or.inl rfl)))) ?_
  show Z G (d + 1) mX12_init 27 [(2, 234)] [(2, 237), (2, 234)] 237 267 (kq kX M 234 234 235 237 2 0) Q
  refine z_putfinal (v := 237) (k := 2) dX12_init_27 fX12_16 uX12_16 sh234 (by decide) rfl r12_2 rfl ⟨by decide, by decide⟩ (by decide) (h0 _ _) ?_
  refine k_M (M' := (kq kX M 234 234 235 237 3 0)) (kq_p (j := 2) ⟨by decide, by decide⟩ (fun i h1 h2 => absurd h2 (by omega)) (by decide +kernel)) ?_
  show Z G (d + 1) mX12_init 30 [(2, 234)] [] 237 267 (kq kX M 234 234 235 237 3 0) Q
  refine z_aloadn dX12_init_30 rfl (Or.inl rfl) ?_
  refine z_bipush (k := 36) dX12_init_31 ⟨by decide, ⟨by decide, by decide⟩⟩ ?_
  refine z_newi (len := 36) dX12_init_33 ac_int (by decide +kernel) (fun y => kq_fr (n' := 238) hM (by decide) (by decide) (by decide) (Or.inl (by decide)) _ y (by decide)) (by decide) ?_
  refine k_M (M' := (kq kX M 234 234 235 238 3 0)) (kq_n (by decide) (fun y => hM _ y (by decide)) (fun y => (kX_off (by decide)).trans (zfx_arr sh238 (Or.inl rfl)))) ?_
  show Z G (d + 1) mX12_init 35 [(2, 234)] [(2, 238), (2, 234)] 238 267 (kq kX M 234 234 235 238 3 0) Q
  refine z_putfinal (v := 238) (k := 3) dX12_init_35 fX12_19 uX12_19 sh234 (by decide) rfl r12_3 rfl ⟨by decide, by decide⟩ (by decide) (h0 _ _) ?_
  refine k_M (M' := (kq kX M 234 234 235 238 4 0)) (kq_p (j := 3) ⟨by decide, by decide⟩ (fun i h1 h2 => absurd h2 (by omega)) (by decide +kernel)) ?_
  show Z G (d + 1) mX12_init 38 [(2, 234)] [] 238 267 (kq kX M 234 234 235 238 4 0) Q
  refine z_aloadn dX12_init_38 rfl (Or.inl rfl) ?_
  refine z_sipush (k := 300) dX12_init_39 ⟨by decide, ⟨by decide, by decide⟩⟩ ?_
  refine z_newi (len := 300) dX12_init_42 ac_int (by decide +kernel) (fun y => kq_fr (n' := 239) hM (by decide) (by decide) (by decide) (Or.inl (by decide)) _ y (by decide)) (by decide) ?_
  refine k_M (M' := (kq kX M 234 234 235 239 4 0)) (kq_n (by decide) (fun y => hM _ y (by decide)) (fun y => (kX_off (by decide)).trans (zfx_arr sh239 (Or.inl rfl)))) ?_
  show Z G (d + 1) mX12_init 44 [(2, 234)] [(2, 239), (2, 234)] 239 267 (kq kX M 234 234 235 239 4 0) Q
  refine z_putfinal (v := 239) (k := 4) dX12_init_44 fX12_22 uX12_22 sh234 (by decide) rfl r12_4 rfl ⟨by decide, by decide⟩ (by decide) (h0 _ _) ?_
  refine k_M (M' := (kq kX M 234 234 235 239 5 0)) (kq_p (j := 4) ⟨by decide, by decide⟩ (fun i h1 h2 => absurd h2 (by omega)) (by decide +kernel)) ?_
  show Z G (d + 1) mX12_init 47 [(2, 234)] [] 239 267 (kq kX M 234 234 235 239 5 0) Q
  refine z_aloadn dX12_init_47 rfl (Or.inl rfl) ?_
  refine z_iconst (k := (-1)) dX12_init_48 ⟨by decide, by decide⟩ ?_
  refine z_putfield (v := (-1)) (k := 6) dX12_init_49 fX12_25 sh234 (by decide) ⟨rfl, rfl⟩ p12_6 ⟨by decide, by decide⟩ (fun q => absurd q (by decide)) (h0 _ _) ?_
  refine k_M (M' := (kq kX M 234 234 235 239 7 0)) (kq_p (j := 6) ⟨by decide, by decide⟩ (fun i h1 h2 => by rw [show i = 5 by omega]; decide +kernel) (by decide +kernel)) ?_
  show Z G (d + 1) mX12_init 52 [(2, 234)] [] 239 267 (kq kX M 234 234 235 239 7 0) Q
  refine z_aloadn dX12_init_52 rfl (Or.inl rfl) ?_
  refine z_iconst (k := (-1)) dX12_init_53 ⟨by decide, by decide⟩ ?_
  refine z_putfield (v := (-1)) (k := 7) dX12_init_54 fX12_29 sh234 (by decide) ⟨rfl, rfl⟩ p12_7 ⟨by decide, by decide⟩ (fun q => absurd q (by decide)) (h0 _ _) ?_
  refine k_M (M' := (kq kX M 234 234 235 239 8 0)) (kq_p (j := 7) ⟨by decide, by decide⟩ (fun i h1 h2 => absurd h2 (by omega)) (by decide +kernel)) ?_
  show Z G (d + 1) mX12_init 57 [(2, 234)] [] 239 267 (kq kX M 234 234 235 239 8 0) Q
  refine z_aloadn dX12_init_57 rfl (Or.inl rfl) ?_
  refine z_sipush (k := 3556) dX12_init_58 ⟨by decide, ⟨by decide, by decide⟩⟩ ?_
  refine z_newi (len := 3556) dX12_init_61 ac_int (by decide +kernel) (fun y => kq_fr (n' := 240) hM (by decide) (by decide) (by decide) (Or.inl (by decide)) _ y (by decide)) (by decide) ?_
  refine k_M (M' := (kq kX M 234 234 235 240 8 0)) (kq_n (by decide) (fun y => hM _ y (by decide)) (fun y => (kX_off (by decide)).trans (zfx_arr sh240 (Or.inl rfl)))) ?_
  show Z G (d + 1) mX12_init 63 [(2, 234)] [(2, 240), (2, 234)] 240 267 (kq kX M 234 234 235 240 8 0) Q
  refine z_putfinal (v := 240) (k := 13) dX12_init_63 fX12_32 uX12_32 sh234 (by decide) rfl r12_13 rfl ⟨by decide, by decide⟩ (by decide) (h0 _ _) ?_
  refine k_M (M' := (kq kX M 234 234 235 240 14 0)) (kq_p (j := 13) ⟨by decide, by decide⟩ (fun i h1 h2 => by rcases (show i = 8 ∨ i = 9 ∨ i = 10 ∨ i = 11 ∨ i = 12 by omega) with rfl | rfl | rfl | rfl | rfl <;> decide +kernel) (by decide +kernel)) ?_
  show Z G (d + 1) mX12_init 66 [(2, 234)] [] 240 267 (kq kX M 234 234 235 240 14 0) Q
  refine z_aloadn dX12_init_66 rfl (Or.inl rfl) ?_
  refine z_bipush (k := 10) dX12_init_67 ⟨by decide, ⟨by decide, by decide⟩⟩ ?_
  refine z_newi (len := 10) dX12_init_69 ac_int (by decide +kernel) (fun y => kq_fr (n' := 241) hM (by decide) (by decide) (by decide) (Or.inl (by decide)) _ y (by decide)) (by decide) ?_
  refine k_M (M' := (kq kX M 234 234 235 241 14 0)) (kq_n (by decide) (fun y => hM _ y (by decide)) (fun y => (kX_off (by decide)).trans (zfx_arr sh241 (Or.inl rfl)))) ?_
  show Z G (d + 1) mX12_init 71 [(2, 234)] [(2, 241), (2, 234)] 241 267 (kq kX M 234 234 235 241 14 0) Q
  refine z_putfinal (v := 241) (k := 17) dX12_init_71 fX12_35 uX12_35 sh234 (by decide) rfl r12_17 rfl ⟨by decide, by decide⟩ (by decide) (h0 _ _) ?_
  refine k_M (M' := (kq kX M 234 234 235 241 18 0)) (kq_p (j := 17) ⟨by decide, by decide⟩ (fun i h1 h2 => by rcases (show i = 14 ∨ i = 15 ∨ i = 16 by omega) with rfl | rfl | rfl <;> decide +kernel) (by decide +kernel)) ?_
  show Z G (d + 1) mX12_init 74 [(2, 234)] [] 241 267 (kq kX M 234 234 235 241 18 0) Q
  refine z_aloadn dX12_init_74 rfl (Or.inl rfl) ?_
  refine z_bipush (k := 10) dX12_init_75 ⟨by decide, ⟨by decide, by decide⟩⟩ ?_
  refine z_newi (len := 10) dX12_init_77 ac_int (by decide +kernel) (fun y => kq_fr (n' := 242) hM (by decide) (by decide) (by decide) (Or.inl (by decide)) _ y (by decide)) (by decide) ?_
  refine k_M (M' := (kq kX M 234 234 235 242 18 0)) (kq_n (by decide) (fun y => hM _ y (by decide)) (fun y => (kX_off (by decide)).trans (zfx_arr sh242 (Or.inl rfl)))) ?_
  show Z G (d + 1) mX12_init 79 [(2, 234)] [(2, 242), (2, 234)] 242 267 (kq kX M 234 234 235 242 18 0) Q
  refine z_putfinal (v := 242) (k := 18) dX12_init_79 fX12_38 uX12_38 sh234 (by decide) rfl r12_18 rfl ⟨by decide, by decide⟩ (by decide) (h0 _ _) ?_
  refine k_M (M' := (kq kX M 234 234 235 242 19 0)) (kq_p (j := 18) ⟨by decide, by decide⟩ (fun i h1 h2 => absurd h2 (by omega)) (by decide +kernel)) ?_
  show Z G (d + 1) mX12_init 82 [(2, 234)] [] 242 267 (kq kX M 234 234 235 242 19 0) Q
  refine z_aloadn dX12_init_82 rfl (Or.inl rfl) ?_
  refine z_bipush (k := 10) dX12_init_83 ⟨by decide, ⟨by decide, by decide⟩⟩ ?_
  refine z_newi (len := 10) dX12_init_85 ac_int (by decide +kernel) (fun y => kq_fr (n' := 243) hM (by decide) (by decide) (by decide) (Or.inl (by decide)) _ y (by decide)) (by decide) ?_
  refine k_M (M' := (kq kX M 234 234 235 243 19 0)) (kq_n (by decide) (fun y => hM _ y (by decide)) (fun y => (kX_off (by decide)).trans (zfx_arr sh243 (Or.inl rfl)))) ?_
  show Z G (d + 1) mX12_init 87 [(2, 234)] [(2, 243), (2, 234)] 243 267 (kq kX M 234 234 235 243 19 0) Q
  refine z_putfinal (v := 243) (k := 19) dX12_init_87 fX12_41 uX12_41 sh234 (by decide) rfl r12_19 rfl ⟨by decide, by decide⟩ (by decide) (h0 _ _) ?_
  refine k_M (M' := (kq kX M 234 234 235 243 20 0)) (kq_p (j := 19) ⟨by decide, by decide⟩ (fun i h1 h2 => absurd h2 (by omega)) (by decide +kernel)) ?_
  show Z G (d + 1) mX12_init 90 [(2, 234)] [] 243 267 (kq kX M 234 234 235 243 20 0) Q
  refine z_aloadn dX12_init_90 rfl (Or.inl rfl) ?_
  refine z_bipush (k := 10) dX12_init_91 ⟨by decide, ⟨by decide, by decide⟩⟩ ?_
  refine z_newi (len := 10) dX12_init_93 ac_int (by decide +kernel) (fun y => kq_fr (n' := 244) hM (by decide) (by decide) (by decide) (Or.inl (by decide)) _ y (by decide)) (by decide) ?_
  refine k_M (M' := (kq kX M 234 234 235 244 20 0)) (kq_n (by decide) (fun y => hM _ y (by decide)) (fun y => (kX_off (by decide)).trans (zfx_arr sh244 (Or.inl rfl)))) ?_
  show Z G (d + 1) mX12_init 95 [(2, 234)] [(2, 244), (2, 234)] 244 267 (kq kX M 234 234 235 244 20 0) Q
  refine z_putfinal (v := 244) (k := 20) dX12_init_95 fX12_44 uX12_44 sh234 (by decide) rfl r12_20 rfl ⟨by decide, by decide⟩ (by decide) (h0 _ _) ?_
  refine k_M (M' := (kq kX M 234 234 235 244 21 0)) (kq_p (j := 20) ⟨by decide, by decide⟩ (fun i h1 h2 => absurd h2 (by omega)) (by decide +kernel)) ?_
  show Z G (d + 1) mX12_init 98 [(2, 234)] [] 244 267 (kq kX M 234 234 235 244 21 0) Q
  refine z_aloadn dX12_init_98 rfl (Or.inl rfl) ?_
  refine z_bipush (k := 10) dX12_init_99 ⟨by decide, ⟨by decide, by decide⟩⟩ ?_
  refine z_newi (len := 10) dX12_init_101 ac_int (by decide +kernel) (fun y => kq_fr (n' := 245) hM (by decide) (by decide) (by decide) (Or.inl (by decide)) _ y (by decide)) (by decide) ?_
  refine k_M (M' := (kq kX M 234 234 235 245 21 0)) (kq_n (by decide) (fun y => hM _ y (by decide)) (fun y => (kX_off (by decide)).trans (zfx_arr sh245 (Or.inl rfl)))) ?_
  show Z G (d + 1) mX12_init 103 [(2, 234)] [(2, 245), (2, 234)] 245 267 (kq kX M 234 234 235 245 21 0) Q
  refine z_putfinal (v := 245) (k := 21) dX12_init_103 fX12_47 uX12_47 sh234 (by decide) rfl r12_21 rfl ⟨by decide, by decide⟩ (by decide) (h0 _ _) ?_
  refine k_M (M' := (kq kX M 234 234 235 245 22 0)) (kq_p (j := 21) ⟨by decide, by decide⟩ (fun i h1 h2 => absurd h2 (by omega)) (by decide +kernel)) ?_
  show Z G (d + 1) mX12_init 106 [(2, 234)] [] 245 267 (kq kX M 234 234 235 245 22 0) Q
  refine z_aloadn dX12_init_106 rfl (Or.inl rfl) ?_
  refine z_bipush (k := 12) dX12_init_107 ⟨by decide, ⟨by decide, by decide⟩⟩ ?_
  refine z_newi (len := 12) dX12_init_109 ac_int (by decide +kernel) (fun y => kq_fr (n' := 246) hM (by decide) (by decide) (by decide) (Or.inl (by decide)) _ y (by decide)) (by decide) ?_
  refine k_M (M' := (kq kX M 234 234 235 246 22 0)) (kq_n (by decide) (fun y => hM _ y (by decide)) (fun y => (kX_off (by decide)).trans (zfx_arr sh246 (Or.inl rfl)))) ?_
  show Z G (d + 1) mX12_init 111 [(2, 234)] [(2, 246), (2, 234)] 246 267 (kq kX M 234 234 235 246 22 0) Q
  refine z_putfinal (v := 246) (k := 28) dX12_init_111 fX12_50 uX12_50 sh234 (by decide) rfl r12_28 rfl ⟨by decide, by decide⟩ (by decide) (h0 _ _) ?_
  refine k_M (M' := (kq kX M 234 234 235 246 29 0)) (kq_p (j := 28) ⟨by decide, by decide⟩ (fun i h1 h2 => by rcases (show i = 22 ∨ i = 23 ∨ i = 24 ∨ i = 25 ∨ i = 26 ∨ i = 27 by omega) with rfl | rfl | rfl | rfl | rfl | rfl <;> decide +kernel) (by decide +kernel)) ?_
  show Z G (d + 1) mX12_init 114 [(2, 234)] [] 246 267 (kq kX M 234 234 235 246 29 0) Q
  refine z_aloadn dX12_init_114 rfl (Or.inl rfl) ?_
  refine z_sipush (k := 2880) dX12_init_115 ⟨by decide, ⟨by decide, by decide⟩⟩ ?_
  refine z_newi (len := 2880) dX12_init_118 ac_int (by decide +kernel) (fun y => kq_fr (n' := 247) hM (by decide) (by decide) (by decide) (Or.inl (by decide)) _ y (by decide)) (by decide) ?_
  refine k_M (M' := (kq kX M 234 234 235 247 29 0)) (kq_n (by decide) (fun y => hM _ y (by decide)) (fun y => (kX_off (by decide)).trans (zfx_arr sh247 (Or.inl rfl)))) ?_
  show Z G (d + 1) mX12_init 120 [(2, 234)] [(2, 247), (2, 234)] 247 267 (kq kX M 234 234 235 247 29 0) Q
  refine z_putfinal (v := 247) (k := 29) dX12_init_120 fX12_53 uX12_53 sh234 (by decide) rfl r12_29 rfl ⟨by decide, by decide⟩ (by decide) (h0 _ _) ?_
  refine k_M (M' := (kq kX M 234 234 235 247 30 0)) (kq_p (j := 29) ⟨by decide, by decide⟩ (fun i h1 h2 => absurd h2 (by omega)) (by decide +kernel)) ?_
  show Z G (d + 1) mX12_init 123 [(2, 234)] [] 247 267 (kq kX M 234 234 235 247 30 0) Q
  refine z_aloadn dX12_init_123 rfl (Or.inl rfl) ?_
  refine z_bipush (k := 48) dX12_init_124 ⟨by decide, ⟨by decide, by decide⟩⟩ ?_
  refine z_newi (len := 48) dX12_init_126 ac_int (by decide +kernel) (fun y => kq_fr (n' := 248) hM (by decide) (by decide) (by decide) (Or.inl (by decide)) _ y (by decide)) (by decide) ?_
  refine k_M (M' := (kq kX M 234 234 235 248 30 0)) (kq_n (by decide) (fun y => hM _ y (by decide)) (fun y => (kX_off (by decide)).trans (zfx_arr sh248 (Or.inl rfl)))) ?_
  show Z G (d + 1) mX12_init 128 [(2, 234)] [(2, 248), (2, 234)] 248 267 (kq kX M 234 234 235 248 30 0) Q
  refine z_putfinal (v := 248) (k := 30) dX12_init_128 fX12_56 uX12_56 sh234 (by decide) rfl r12_30 rfl ⟨by decide, by decide⟩ (by decide) (h0 _ _) ?_
  refine k_M (M' := (kq kX M 234 234 235 248 31 0)) (kq_p (j := 30) ⟨by decide, by decide⟩ (fun i h1 h2 => absurd h2 (by omega)) (by decide +kernel)) ?_
  show Z G (d + 1) mX12_init 131 [(2, 234)] [] 248 267 (kq kX M 234 234 235 248 31 0) Q
  refine z_aloadn dX12_init_131 rfl (Or.inl rfl) ?_
  refine z_iconst (k := 4) dX12_init_132 ⟨by decide, by decide⟩ ?_
  refine z_newi (len := 4) dX12_init_133 ac_int (by decide +kernel) (fun y => kq_fr (n' := 249) hM (by decide) (by decide) (by decide) (Or.inl (by decide)) _ y (by decide)) (by decide) ?_
  refine k_M (M' := (kq kX M 234 234 235 249 31 0)) (kq_n (by decide) (fun y => hM _ y (by decide)) (fun y => (kX_off (by decide)).trans (zfx_arr sh249 (Or.inl rfl)))) ?_
  show Z G (d + 1) mX12_init 135 [(2, 234)] [(2, 249), (2, 234)] 249 267 (kq kX M 234 234 235 249 31 0) Q
  refine z_putfinal (v := 249) (k := 31) dX12_init_135 fX12_59 uX12_59 sh234 (by decide) rfl r12_31 rfl ⟨by decide, by decide⟩ (by decide) (h0 _ _) ?_
  refine k_M (M' := (kq kX M 234 234 235 249 32 0)) (kq_p (j := 31) ⟨by decide, by decide⟩ (fun i h1 h2 => absurd h2 (by omega)) (by decide +kernel)) ?_
  show Z G (d + 1) mX12_init 138 [(2, 234)] [] 249 267 (kq kX M 234 234 235 249 32 0) Q
  refine z_aloadn dX12_init_138 rfl (Or.inl rfl) ?_
  refine z_sipush (k := 130) dX12_init_139 ⟨by decide, ⟨by decide, by decide⟩⟩ ?_
  refine z_newl (len := 130) dX12_init_142 ac_long (by decide +kernel) (fun y => kq_fr (n' := 250) hM (by decide) (by decide) (by decide) (Or.inl (by decide)) _ y (by decide)) (by decide) ?_
  refine k_M (M' := (kq kX M 234 234 235 250 32 0)) (kq_n (by decide) (fun y => hM _ y (by decide)) (fun y => (kX_off (by decide)).trans (zfx_arr sh250 (Or.inr (Or.inl rfl))))) ?_
  show Z G (d + 1) mX12_init 144 [(2, 234)] [(2, 250), (2, 234)] 250 267 (kq kX M 234 234 235 250 32 0) Q
  refine z_putfinal (v := 250) (k := 32) dX12_init_144 fX12_62 uX12_62 sh234 (by decide) rfl r12_32 rfl ⟨by decide, by decide⟩ (by decide) (h0 _ _) ?_
  refine k_M (M' := (kq kX M 234 234 235 250 33 0)) (kq_p (j := 32) ⟨by decide, by decide⟩ (fun i h1 h2 => absurd h2 (by omega)) (by decide +kernel)) ?_
  show Z G (d + 1) mX12_init 147 [(2, 234)] [] 250 267 (kq kX M 234 234 235 250 33 0) Q
  refine z_aloadn dX12_init_147 rfl (Or.inl rfl) ?_
  refine z_sipush (k := 600) dX12_init_148 ⟨by decide, ⟨by decide, by decide⟩⟩ ?_
  refine z_newi (len := 600) dX12_init_151 ac_int (by decide +kernel) (fun y => kq_fr (n' := 251) hM (by decide) (by decide) (by decide) (Or.inl (by decide)) _ y (by decide)) (by decide) ?_
  refine k_M (M' := (kq kX M 234 234 235 251 33 0)) (kq_n (by decide) (fun y => hM _ y (by decide)) (fun y => (kX_off (by decide)).trans (zfx_arr sh251 (Or.inl rfl)))) ?_
  show Z G (d + 1) mX12_init 153 [(2, 234)] [(2, 251), (2, 234)] 251 267 (kq kX M 234 234 235 251 33 0) Q
  refine z_putfinal (v := 251) (k := 33) dX12_init_153 fX12_66 uX12_66 sh234 (by decide) rfl r12_33 rfl ⟨by decide, by decide⟩ (by decide) (h0 _ _) ?_
  refine k_M (M' := (kq kX M 234 234 235 251 34 0)) (kq_p (j := 33) ⟨by decide, by decide⟩ (fun i h1 h2 => absurd h2 (by omega)) (by decide +kernel)) ?_
  show Z G (d + 1) mX12_init 156 [(2, 234)] [] 251 267 (kq kX M 234 234 235 251 34 0) Q
  refine z_aloadn dX12_init_156 rfl (Or.inl rfl) ?_
  refine z_sipush (k := 130) dX12_init_157 ⟨by decide, ⟨by decide, by decide⟩⟩ ?_
  refine z_newi (len := 130) dX12_init_160 ac_int (by decide +kernel) (fun y => kq_fr (n' := 252) hM (by decide) (by decide) (by decide) (Or.inl (by decide)) _ y (by decide)) (by decide) ?_
  refine k_M (M' := (kq kX M 234 234 235 252 34 0)) (kq_n (by decide) (fun y => hM _ y (by decide)) (fun y => (kX_off (by decide)).trans (zfx_arr sh252 (Or.inl rfl)))) ?_
  show Z G (d + 1) mX12_init 162 [(2, 234)] [(2, 252), (2, 234)] 252 267 (kq kX M 234 234 235 252 34 0) Q
  refine z_putfinal (v := 252) (k := 34) dX12_init_162 fX12_69 uX12_69 sh234 (by decide) rfl r12_34 rfl ⟨by decide, by decide⟩ (by decide) (h0 _ _) ?_
  refine k_M (M' := (kq kX M 234 234 235 252 35 0)) (kq_p (j := 34) ⟨by decide, by decide⟩ (fun i h1 h2 => absurd h2 (by omega)) (by decide +kernel)) ?_
  show Z G (d + 1) mX12_init 165 [(2, 234)] [] 252 267 (kq kX M 234 234 235 252 35 0) Q
  refine z_aloadn dX12_init_165 rfl (Or.inl rfl) ?_
  refine z_sipush (k := 600) dX12_init_166 ⟨by decide, ⟨by decide, by decide⟩⟩ ?_
  refine z_newi (len := 600) dX12_init_169 ac_int (by decide +kernel) (fun y => kq_fr (n' := 253) hM (by decide) (by decide) (by decide) (Or.inl (by decide)) _ y (by decide)) (by decide) ?_
  refine k_M (M' := (kq kX M 234 234 235 253 35 0)) (kq_n (by decide) (fun y => hM _ y (by decide)) (fun y => (kX_off (by decide)).trans (zfx_arr sh253 (Or.inl rfl)))) ?_
  show Z G (d + 1) mX12_init 171 [(2, 234)] [(2, 253), (2, 234)] 253 267 (kq kX M 234 234 235 253 35 0) Q
  refine z_putfinal (v := 253) (k := 35) dX12_init_171 fX12_72 uX12_72 sh234 (by decide) rfl r12_35 rfl ⟨by decide, by decide⟩ (by decide) (h0 _ _) ?_
  refine k_M (M' := (kq kX M 234 234 235 253 36 0)) (kq_p (j := 35) ⟨by decide, by decide⟩ (fun i h1 h2 => absurd h2 (by omega)) (by decide +kernel)) ?_
  show Z G (d + 1) mX12_init 174 [(2, 234)] [] 253 267 (kq kX M 234 234 235 253 36 0) Q
  refine z_aloadn dX12_init_174 rfl (Or.inl rfl) ?_
  refine z_bipush (k := 40) dX12_init_175 ⟨by decide, ⟨by decide, by decide⟩⟩ ?_
  refine z_newi (len := 40) dX12_init_177 ac_int (by decide +kernel) (fun y => kq_fr (n' := 254) hM (by decide) (by decide) (by decide) (Or.inl (by decide)) _ y (by decide)) (by decide) ?_
  refine k_M (M' := (kq kX M 234 234 235 254 36 0)) (kq_n (by decide) (fun y => hM _ y (by decide)) (fun y => (kX_off (by decide)).trans (zfx_arr sh254 (Or.inl rfl)))) ?_
  show Z G (d + 1) mX12_init 179 [(2, 234)] [(2, 254), (2, 234)] 254 267 (kq kX M 234 234 235 254 36 0) Q
  refine z_putfinal (v := 254) (k := 37) dX12_init_179 fX12_75 uX12_75 sh234 (by decide) rfl r12_37 rfl ⟨by decide, by decide⟩ (by decide) (h0 _ _) ?_
  refine k_M (M' := (kq kX M 234 234 235 254 38 0)) (kq_p (j := 37) ⟨by decide, by decide⟩ (fun i h1 h2 => by rw [show i = 36 by omega]; decide +kernel) (by decide +kernel)) ?_
  show Z G (d + 1) mX12_init 182 [(2, 234)] [] 254 267 (kq kX M 234 234 235 254 38 0) Q
  refine z_aloadn dX12_init_182 rfl (Or.inl rfl) ?_
  refine z_bipush (k := 40) dX12_init_183 ⟨by decide, ⟨by decide, by decide⟩⟩ ?_
  refine z_newi (len := 40) dX12_init_185 ac_int (by decide +kernel) (fun y => kq_fr (n' := 255) hM (by decide) (by decide) (by decide) (Or.inl (by decide)) _ y (by decide)) (by decide) ?_
  refine k_M (M' := (kq kX M 234 234 235 255 38 0)) (kq_n (by decide) (fun y => hM _ y (by decide)) (fun y => (kX_off (by decide)).trans (zfx_arr sh255 (Or.inl rfl)))) ?_
  show Z G (d + 1) mX12_init 187 [(2, 234)] [(2, 255), (2, 234)] 255 267 (kq kX M 234 234 235 255 38 0) Q
  refine z_putfinal (v := 255) (k := 38) dX12_init_187 fX12_78 uX12_78 sh234 (by decide) rfl r12_38 rfl ⟨by decide, by decide⟩ (by decide) (h0 _ _) ?_
  refine k_M (M' := (kq kX M 234 234 235 255 39 0)) (kq_p (j := 38) ⟨by decide, by decide⟩ (fun i h1 h2 => absurd h2 (by omega)) (by decide +kernel)) ?_
  show Z G (d + 1) mX12_init 190 [(2, 234)] [] 255 267 (kq kX M 234 234 235 255 39 0) Q
  refine z_aloadn dX12_init_190 rfl (Or.inl rfl) ?_
  refine z_bipush (k := 40) dX12_init_191 ⟨by decide, ⟨by decide, by decide⟩⟩ ?_
  refine z_newi (len := 40) dX12_init_193 ac_int (by decide +kernel) (fun y => kq_fr (n' := 256) hM (by decide) (by decide) (by decide) (Or.inl (by decide)) _ y (by decide)) (by decide) ?_
  refine k_M (M' := (kq kX M 234 234 235 256 39 0)) (kq_n (by decide) (fun y => hM _ y (by decide)) (fun y => (kX_off (by decide)).trans (zfx_arr sh256 (Or.inl rfl)))) ?_
  show Z G (d + 1) mX12_init 195 [(2, 234)] [(2, 256), (2, 234)] 256 267 (kq kX M 234 234 235 256 39 0) Q
  refine z_putfinal (v := 256) (k := 39) dX12_init_195 fX12_81 uX12_81 sh234 (by decide) rfl r12_39 rfl ⟨by decide, by decide⟩ (by decide) (h0 _ _) ?_
  refine k_M (M' := (kq kX M 234 234 235 256 40 0)) (kq_p (j := 39) ⟨by decide, by decide⟩ (fun i h1 h2 => absurd h2 (by omega)) (by decide +kernel)) ?_
  show Z G (d + 1) mX12_init 198 [(2, 234)] [] 256 267 (kq kX M 234 234 235 256 40 0) Q
  refine z_aloadn dX12_init_198 rfl (Or.inl rfl) ?_
  refine z_sipush (k := 600) dX12_init_199 ⟨by decide, ⟨by decide, by decide⟩⟩ ?_
  refine z_newi (len := 600) dX12_init_202 ac_int (by decide +kernel) (fun y => kq_fr (n' := 257) hM (by decide) (by decide) (by decide) (Or.inl (by decide)) _ y (by decide)) (by decide) ?_
  refine k_M (M' := (kq kX M 234 234 235 257 40 0)) (kq_n (by decide) (fun y => hM _ y (by decide)) (fun y => (kX_off (by decide)).trans (zfx_arr sh257 (Or.inl rfl)))) ?_
  show Z G (d + 1) mX12_init 204 [(2, 234)] [(2, 257), (2, 234)] 257 267 (kq kX M 234 234 235 257 40 0) Q
  refine z_putfinal (v := 257) (k := 41) dX12_init_204 fX12_84 uX12_84 sh234 (by decide) rfl r12_41 rfl ⟨by decide, by decide⟩ (by decide) (h0 _ _) ?_
  refine k_M (M' := (kq kX M 234 234 235 257 42 0)) (kq_p (j := 41) ⟨by decide, by decide⟩ (fun i h1 h2 => by rw [show i = 40 by omega]; decide +kernel) (by decide +kernel)) ?_
  show Z G (d + 1) mX12_init 207 [(2, 234)] [] 257 267 (kq kX M 234 234 235 257 42 0) Q
  refine z_aloadn dX12_init_207 rfl (Or.inl rfl) ?_
  refine z_bipush (k := 12) dX12_init_208 ⟨by decide, ⟨by decide, by decide⟩⟩ ?_
  refine z_newz (len := 12) dX12_init_210 ac_boolean (by decide +kernel) (fun y => kq_fr (n' := 258) hM (by decide) (by decide) (by decide) (Or.inl (by decide)) _ y (by decide)) (by decide) ?_
  refine k_M (M' := (kq kX M 234 234 235 258 42 0)) (kq_n (by decide) (fun y => hM _ y (by decide)) (fun y => (kX_off (by decide)).trans (zfx_arr sh258 (Or.inr (Or.inr rfl))))) ?_
  show Z G (d + 1) mX12_init 212 [(2, 234)] [(2, 258), (2, 234)] 258 267 (kq kX M 234 234 235 258 42 0) Q
  refine z_putfinal (v := 258) (k := 42) dX12_init_212 fX12_87 uX12_87 sh234 (by decide) rfl r12_42 rfl ⟨by decide, by decide⟩ (by decide) (h0 _ _) ?_
  refine k_M (M' := (kq kX M 234 234 235 258 43 0)) (kq_p (j := 42) ⟨by decide, by decide⟩ (fun i h1 h2 => absurd h2 (by omega)) (by decide +kernel)) ?_
  show Z G (d + 1) mX12_init 215 [(2, 234)] [] 258 267 (kq kX M 234 234 235 258 43 0) Q
  refine z_aloadn dX12_init_215 rfl (Or.inl rfl) ?_
  refine z_bipush (k := 12) dX12_init_216 ⟨by decide, ⟨by decide, by decide⟩⟩ ?_
  refine z_newi (len := 12) dX12_init_218 ac_int (by decide +kernel) (fun y => kq_fr (n' := 259) hM (by decide) (by decide) (by decide) (Or.inl (by decide)) _ y (by decide)) (by decide) ?_
  refine k_M (M' := (kq kX M 234 234 235 259 43 0)) (kq_n (by decide) (fun y => hM _ y (by decide)) (fun y => (kX_off (by decide)).trans (zfx_arr sh259 (Or.inl rfl)))) ?_
  show Z G (d + 1) mX12_init 220 [(2, 234)] [(2, 259), (2, 234)] 259 267 (kq kX M 234 234 235 259 43 0) Q
  refine z_putfinal (v := 259) (k := 43) dX12_init_220 fX12_91 uX12_91 sh234 (by decide) rfl r12_43 rfl ⟨by decide, by decide⟩ (by decide) (h0 _ _) ?_
  refine k_M (M' := (kq kX M 234 234 235 259 44 0)) (kq_p (j := 43) ⟨by decide, by decide⟩ (fun i h1 h2 => absurd h2 (by omega)) (by decide +kernel)) ?_
  show Z G (d + 1) mX12_init 223 [(2, 234)] [] 259 267 (kq kX M 234 234 235 259 44 0) Q
  refine z_aloadn dX12_init_223 rfl (Or.inl rfl) ?_
  refine z_bipush (k := 6) dX12_init_224 ⟨by decide, ⟨by decide, by decide⟩⟩ ?_
  refine z_newi (len := 6) dX12_init_226 ac_int (by decide +kernel) (fun y => kq_fr (n' := 260) hM (by decide) (by decide) (by decide) (Or.inl (by decide)) _ y (by decide)) (by decide) ?_
  refine k_M (M' := (kq kX M 234 234 235 260 44 0)) (kq_n (by decide) (fun y => hM _ y (by decide)) (fun y => (kX_off (by decide)).trans (zfx_arr sh260 (Or.inl rfl)))) ?_
  show Z G (d + 1) mX12_init 228 [(2, 234)] [(2, 260), (2, 234)] 260 267 (kq kX M 234 234 235 260 44 0) Q
  refine z_putfinal (v := 260) (k := 44) dX12_init_228 fX12_94 uX12_94 sh234 (by decide) rfl r12_44 rfl ⟨by decide, by decide⟩ (by decide) (h0 _ _) ?_
  refine k_M (M' := (kq kX M 234 234 235 260 45 0)) (kq_p (j := 44) ⟨by decide, by decide⟩ (fun i h1 h2 => absurd h2 (by omega)) (by decide +kernel)) ?_
  show Z G (d + 1) mX12_init 231 [(2, 234)] [] 260 267 (kq kX M 234 234 235 260 45 0) Q
  refine z_aloadn dX12_init_231 rfl (Or.inl rfl) ?_
  refine z_bipush (k := 6) dX12_init_232 ⟨by decide, ⟨by decide, by decide⟩⟩ ?_
  refine z_newi (len := 6) dX12_init_234 ac_int (by decide +kernel) (fun y => kq_fr (n' := 261) hM (by decide) (by decide) (by decide) (Or.inl (by decide)) _ y (by decide)) (by decide) ?_
  refine k_M (M' := (kq kX M 234 234 235 261 45 0)) (kq_n (by decide) (fun y => hM _ y (by decide)) (fun y => (kX_off (by decide)).trans (zfx_arr sh261 (Or.inl rfl)))) ?_
  show Z G (d + 1) mX12_init 236 [(2, 234)] [(2, 261), (2, 234)] 261 267 (kq kX M 234 234 235 261 45 0) Q
  refine z_putfinal (v := 261) (k := 45) dX12_init_236 fX12_97 uX12_97 sh234 (by decide) rfl r12_45 rfl ⟨by decide, by decide⟩ (by decide) (h0 _ _) ?_
  refine k_M (M' := (kq kX M 234 234 235 261 46 0)) (kq_p (j := 45) ⟨by decide, by decide⟩ (fun i h1 h2 => absurd h2 (by omega)) (by decide +kernel)) ?_
  show Z G (d + 1) mX12_init 239 [(2, 234)] [] 261 267 (kq kX M 234 234 235 261 46 0) Q
  refine z_aloadn dX12_init_239 rfl (Or.inl rfl) ?_
  refine z_sipush (k := 4096) dX12_init_240 ⟨by decide, ⟨by decide, by decide⟩⟩ ?_
  refine z_newz (len := 4096) dX12_init_243 ac_boolean (by decide +kernel) (fun y => kq_fr (n' := 262) hM (by decide) (by decide) (by decide) (Or.inl (by decide)) _ y (by decide)) (by decide) ?_
  refine k_M (M' := (kq kX M 234 234 235 262 46 0)) (kq_n (by decide) (fun y => hM _ y (by decide)) (fun y => (kX_off (by decide)).trans (zfx_arr sh262 (Or.inr (Or.inr rfl))))) ?_
  show Z G (d + 1) mX12_init 245 [(2, 234)] [(2, 262), (2, 234)] 262 267 (kq kX M 234 234 235 262 46 0) Q
  refine z_putfinal (v := 262) (k := 46) dX12_init_245 fX12_100 uX12_100 sh234 (by decide) rfl r12_46 rfl ⟨by decide, by decide⟩ (by decide) (h0 _ _) ?_
  refine k_M (M' := (kq kX M 234 234 235 262 47 0)) (kq_p (j := 46) ⟨by decide, by decide⟩ (fun i h1 h2 => absurd h2 (by omega)) (by decide +kernel)) ?_
  show Z G (d + 1) mX12_init 248 [(2, 234)] [] 262 267 (kq kX M 234 234 235 262 47 0) Q
  refine z_aloadn dX12_init_248 rfl (Or.inl rfl) ?_
  refine z_sipush (k := 4096) dX12_init_249 ⟨by decide, ⟨by decide, by decide⟩⟩ ?_
  refine z_newz (len := 4096) dX12_init_252 ac_boolean (by decide +kernel) (fun y => kq_fr (n' := 263) hM (by decide) (by decide) (by decide) (Or.inl (by decide)) _ y (by decide)) (by decide) ?_
  refine k_M (M' := (kq kX M 234 234 235 263 47 0)) (kq_n (by decide) (fun y => hM _ y (by decide)) (fun y => (kX_off (by decide)).trans (zfx_arr sh263 (Or.inr (Or.inr rfl))))) ?_
  show Z G (d + 1) mX12_init 254 [(2, 234)] [(2, 263), (2, 234)] 263 267 (kq kX M 234 234 235 263 47 0) Q
  refine z_putfinal (v := 263) (k := 47) dX12_init_254 fX12_103 uX12_103 sh234 (by decide) rfl r12_47 rfl ⟨by decide, by decide⟩ (by decide) (h0 _ _) ?_
  refine k_M (M' := (kq kX M 234 234 235 263 48 0)) (kq_p (j := 47) ⟨by decide, by decide⟩ (fun i h1 h2 => absurd h2 (by omega)) (by decide +kernel)) ?_
  show Z G (d + 1) mX12_init 257 [(2, 234)] [] 263 267 (kq kX M 234 234 235 263 48 0) Q
  refine z_aloadn dX12_init_257 rfl (Or.inl rfl) ?_
  refine z_sipush (k := 6006) dX12_init_258 ⟨by decide, ⟨by decide, by decide⟩⟩ ?_
  refine z_newl (len := 6006) dX12_init_261 ac_long (by decide +kernel) (fun y => kq_fr (n' := 264) hM (by decide) (by decide) (by decide) (Or.inl (by decide)) _ y (by decide)) (by decide) ?_
  refine k_M (M' := (kq kX M 234 234 235 264 48 0)) (kq_n (by decide) (fun y => hM _ y (by decide)) (fun y => (kX_off (by decide)).trans (zfx_arr sh264 (Or.inr (Or.inl rfl))))) ?_
  show Z G (d + 1) mX12_init 263 [(2, 234)] [(2, 264), (2, 234)] 264 267 (kq kX M 234 234 235 264 48 0) Q
  refine z_putfinal (v := 264) (k := 48) dX12_init_263 fX12_106 uX12_106 sh234 (by decide) rfl r12_48 rfl ⟨by decide, by decide⟩ (by decide) (h0 _ _) ?_
  refine k_M (M' := (kq kX M 234 234 235 264 49 0)) (kq_p (j := 48) ⟨by decide, by decide⟩ (fun i h1 h2 => absurd h2 (by omega)) (by decide +kernel)) ?_
  show Z G (d + 1) mX12_init 266 [(2, 234)] [] 264 267 (kq kX M 234 234 235 264 49 0) Q
  refine z_aloadn dX12_init_266 rfl (Or.inl rfl) ?_
  refine z_bipush (k := 10) dX12_init_267 ⟨by decide, ⟨by decide, by decide⟩⟩ ?_
  refine z_newi (len := 10) dX12_init_269 ac_int (by decide +kernel) (fun y => kq_fr (n' := 265) hM (by decide) (by decide) (by decide) (Or.inl (by decide)) _ y (by decide)) (by decide) ?_
  refine k_M (M' := (kq kX M 234 234 235 265 49 0)) (kq_n (by decide) (fun y => hM _ y (by decide)) (fun y => (kX_off (by decide)).trans (zfx_arr sh265 (Or.inl rfl)))) ?_
  show Z G (d + 1) mX12_init 271 [(2, 234)] [(2, 265), (2, 234)] 265 267 (kq kX M 234 234 235 265 49 0) Q
  refine z_putfinal (v := 265) (k := 49) dX12_init_271 fX12_109 uX12_109 sh234 (by decide) rfl r12_49 rfl ⟨by decide, by decide⟩ (by decide) (h0 _ _) ?_
  refine k_M (M' := (kq kX M 234 234 235 265 50 0)) (kq_p (j := 49) ⟨by decide, by decide⟩ (fun i h1 h2 => absurd h2 (by omega)) (by decide +kernel)) ?_
  show Z G (d + 1) mX12_init 274 [(2, 234)] [] 265 267 (kq kX M 234 234 235 265 50 0) Q
  refine z_aloadn dX12_init_274 rfl (Or.inl rfl) ?_
  refine z_bipush (k := 10) dX12_init_275 ⟨by decide, ⟨by decide, by decide⟩⟩ ?_
  refine z_newi (len := 10) dX12_init_277 ac_int (by decide +kernel) (fun y => kq_fr (n' := 266) hM (by decide) (by decide) (by decide) (Or.inl (by decide)) _ y (by decide)) (by decide) ?_
  refine k_M (M' := (kq kX M 234 234 235 266 50 0)) (kq_n (by decide) (fun y => hM _ y (by decide)) (fun y => (kX_off (by decide)).trans (zfx_arr sh266 (Or.inl rfl)))) ?_
  show Z G (d + 1) mX12_init 279 [(2, 234)] [(2, 266), (2, 234)] 266 267 (kq kX M 234 234 235 266 50 0) Q
  refine z_putfinal (v := 266) (k := 50) dX12_init_279 fX12_112 uX12_112 sh234 (by decide) rfl r12_50 rfl ⟨by decide, by decide⟩ (by decide) (h0 _ _) ?_
  refine k_M (M' := (kq kX M 234 234 235 266 51 0)) (kq_p (j := 50) ⟨by decide, by decide⟩ (fun i h1 h2 => absurd h2 (by omega)) (by decide +kernel)) ?_
  show Z G (d + 1) mX12_init 282 [(2, 234)] [] 266 267 (kq kX M 234 234 235 266 51 0) Q
  refine z_aloadn dX12_init_282 rfl (Or.inl rfl) ?_
  refine z_bipush (k := 9) dX12_init_283 ⟨by decide, ⟨by decide, by decide⟩⟩ ?_
  refine z_newi (len := 9) dX12_init_285 ac_int (by decide +kernel) (fun y => kq_fr (n' := 267) hM (by decide) (by decide) (by decide) (Or.inl (by decide)) _ y (by decide)) (by decide) ?_
  refine k_M (M' := (kq kX M 234 234 235 267 51 0)) (kq_n (by decide) (fun y => hM _ y (by decide)) (fun y => (kX_off (by decide)).trans (zfx_arr sh267 (Or.inl rfl)))) ?_
  show Z G (d + 1) mX12_init 287 [(2, 234)] [(2, 267), (2, 234)] 267 267 (kq kX M 234 234 235 267 51 0) Q
  refine z_putfinal (v := 267) (k := 51) dX12_init_287 fX12_115 uX12_115 sh234 (by decide) rfl r12_51 rfl ⟨by decide, by decide⟩ (by decide) (h0 _ _) ?_
  refine k_M (M' := (kq kX M 234 234 235 267 52 0)) (kq_p (j := 51) ⟨by decide, by decide⟩ (fun i h1 h2 => absurd h2 (by omega)) (by decide +kernel)) ?_
  show Z G (d + 1) mX12_init 290 [(2, 234)] [] 267 267 (kq kX M 234 234 235 267 52 0) Q
  refine k_M (M' := kq_f kX M 234 267) (kq_e (by decide) (by decide) (fun i hi => ?_) (Or.inl rfl)) ?_
  · rw [kX_at (by omega) (by omega)]; exact zfx_tl (K := 52) (by decide +kernel) i hi
  have hF : ∀ a i, zfx a i ≠ 0 → kq_f kX M 234 267 a i = zfx a i := fun a i q => by
    unfold kq_f
    by_cases c : 234 ≤ a ∧ a ≤ 267
    · rw [if_pos c]
      by_cases c2 : a = 234
      · subst c2
        refine kX_at (fun q2 => q ?_) (fun q2 => q ?_)
        · rw [q2]; decide +kernel
        · rw [q2]; decide +kernel
      · exact kX_off c2
    · rw [if_neg c]
      by_cases c2 : a < 234
      · exact hb a i c2 q
      · exact absurd (zfx_out (by omega)) q
  refine k_sw (F := zfx) hF h0 ?_
  refine z_aloadn dX12_init_290 rfl (Or.inl rfl) ?_
  refine k_getr (k := 0) (v := 235) dX12_init_291 fX12_7 sh234 (by decide) rfl ⟨by decide, by decide⟩ ((if_pos (by decide) : kq_f kX M 234 267 234 0 = kX 234 0).trans (by decide +kernel)) ?_
  refine z_aloadn dX12_init_294 rfl (Or.inl rfl) ?_
  refine k_getr (k := 1) (v := 236) dX12_init_295 fX12_13 sh234 (by decide) rfl ⟨by decide, by decide⟩ ((if_pos (by decide) : kq_f kX M 234 267 234 1 = kX 234 1).trans (by decide +kernel)) ?_
  refine y_cs (mt2 := mX12_copy) (en := [(2, 235), (2, 236), (9, 0)]) (st := []) (as := [(2, 235), (2, 236)]) dX12_init_298 lX12_118 kX12_copy tX12_copy rfl (Nat.le_of_ble_eq_true rfl) (Nat.le_of_ble_eq_true rfl) rfl (s_copy hP sh235 sh236 (by decide) (by decide) (fun g hg => ?_))
  refine z_return dX12_init_301 rfl rfl (hq g (fun i i0 i1 => ?_))
  rw [hg i i0 i1, show kq_f kX M 234 267 235 i = kX 235 i from if_pos (by decide), kX_off (by decide)]
  exact zfx_arr sh235 (Or.inl rfl)
/-- both are made -/
def kI (M : zM) : Prop := (∀ a i, 1 ≤ a → a ≤ 267 → a ≠ 8 → a ≠ 9 → a ≠ 10 → a ≠ 236 → ¬ (a = 2 ∧ i = 10) → ¬ (a = 234 ∧ (i = 6 ∨ i = 7)) → M a i = zfx a i) ∧ M 2 10 = 2 ∧ (M 234 6 = -1 ∧ M 234 7 = -1) ∧ (∀ i, 0 ≤ i → i < 156 → M 236 i = 0) ∧ zR 6 6 6 (zpw 6) (M 9) (zmB 6 6 (zw0 (fun _ => 0)))
theorem kq_11 {M0 M : zM} (h : kW M0 M) {a i : Int} (ha : 1 ≤ a ∧ a ≤ 233) (c8 : a ≠ 8) (c9 : a ≠ 9) (c10 : a ≠ 10) (c2 : ¬ (a = 2 ∧ i = 10)) : kq zfx M 1 18 12 233 10 4 a i = zfx a i := by
  unfold kq
  by_cases e1 : a = 1
  · rw [if_pos e1]
    by_cases c : 0 ≤ i ∧ i < 10
    · rw [if_pos c]
    · rw [if_neg c, e1]; exact (zfx_tl (K := 10) (by decide +kernel) i (by omega)).symm
  · rw [if_neg e1]
    by_cases e2 : a = 18
    · rw [if_pos e2]
      by_cases c : 0 ≤ i ∧ i < 4
      · rw [if_pos c]
      · rw [if_neg c, e2]; exact (zfx_tl (K := 4) (by decide +kernel) i (by omega)).symm
    · rw [if_neg e2]
      by_cases e3 : 12 ≤ a ∧ a ≤ 233
      · rw [if_pos e3]
      · rw [if_neg e3]; exact h.2.1 a i (by omega) (by omega) c8 c9 c10 c2
theorem kq_11z {M0 M : zM} (h : kW M0 M) (h0 : ∀ a y, (1 : Int) ≤ a → M0 a y = 0) {a i : Int} (ha : 234 ≤ a) : kq zfx M 1 18 12 233 10 4 a i = 0 := by
  unfold kq
  rw [if_neg (by omega), if_neg (by omega), if_neg (by omega), h.1 a i (by omega)]
  exact h0 a i (by omega)
theorem kq_11b {M0 M : zM} (h : kW M0 M) : ∀ a i, a < 234 → zfx a i ≠ 0 → kq zfx M 1 18 12 233 10 4 a i = zfx a i := fun a i c q => by
  have n0 : a ≠ 0 := fun e => q (by rw [e]; exact zfx_tl (K := 0) (by decide +kernel) i (by omega))
  have n1 : ¬ a < 0 := fun e => q (zfx_out (Or.inl e))
  refine kq_11 h ⟨by omega, by omega⟩ (fun e => q ?_) (fun e => q ?_) (fun e => q ?_) (fun e => q ?_)
  · rw [e]; exact zfx_arr sh8 (Or.inl rfl)
  · rw [e]; exact zfx_arr sh9 (Or.inl rfl)
  · rw [e]; exact zfx_arr sh10 (Or.inl rfl)
  · rw [e.1, e.2]; decide +kernel
theorem kI_of {M0 M : zM} (h : kW M0 M) {g : Int → Int} (hg : ∀ i, 0 ≤ i → i < 156 → g i = 0) : kI (zrow (kq_f kX (kq zfx M 1 18 12 233 10 4) 234 267) 236 g) := by
  have at1 : ∀ a i, a < 234 → zrow (kq_f kX (kq zfx M 1 18 12 233 10 4) 234 267) 236 g a i = kq zfx M 1 18 12 233 10 4 a i := fun a i c => by
    rw [zrow_off (by omega)]; exact if_neg (by omega)
  have lw : ∀ a i, 2 ≤ a → a ≤ 11 → kq zfx M 1 18 12 233 10 4 a i = M a i := fun a i c1 c2 => by
    unfold kq; rw [if_neg (by omega), if_neg (by omega), if_neg (by omega)]
  refine ⟨fun a i a1 a2 c8 c9 c10 c236 c2 c234 => ?_, ?_, ⟨?_, ?_⟩, fun i i0 i1 => ?_, ?_⟩
  · by_cases c : a < 234
    · rw [at1 a i c]; exact kq_11 h ⟨a1, by omega⟩ c8 c9 c10 c2
    · rw [zrow_off c236, show kq_f kX (kq zfx M 1 18 12 233 10 4) 234 267 a i = kX a i from if_pos (by omega)]
      by_cases e : a = 234
      · subst e; exact kX_at (fun q => c234 ⟨rfl, Or.inl q⟩) (fun q => c234 ⟨rfl, Or.inr q⟩)
      · exact kX_off e
  · rw [at1 2 10 (by decide), lw 2 10 (by decide) (by decide)]; exact h.2.2.1
  · rw [zrow_off (by decide)]; exact (if_pos (by decide) : kq_f kX (kq zfx M 1 18 12 233 10 4) 234 267 234 6 = kX 234 6).trans (by decide +kernel)
  · rw [zrow_off (by decide)]; exact (if_pos (by decide) : kq_f kX (kq zfx M 1 18 12 233 10 4) 234 267 234 7 = kX 234 7).trans (by decide +kernel)
  · rw [zrow_at]; exact hg i i0 i1
  · have e : zrow (kq_f kX (kq zfx M 1 18 12 233 10 4) 234 267) 236 g 9 = M 9 := by
      funext i; rw [at1 9 i (by decide), lw 9 i (by decide) (by decide)]
    rw [e]; exact h.2.2.2
theorem kI_fix {M : zM} (h : kI M) : ∀ a i, zfx a i ≠ 0 → M a i = zfx a i := fun a i q => by
  have n0 : a ≠ 0 := fun e => q (by rw [e]; exact zfx_tl (K := 0) (by decide +kernel) i (by omega))
  have n1 : ¬ (a < 0 ∨ 267 < a) := fun e => q (zfx_out e)
  refine h.1 a i (by omega) (by omega) (fun e => q ?_) (fun e => q ?_) (fun e => q ?_) (fun e => q ?_) (fun e => q ?_) (fun e => q ?_)
  · rw [e]; exact zfx_arr sh8 (Or.inl rfl)
  · rw [e]; exact zfx_arr sh9 (Or.inl rfl)
  · rw [e]; exact zfx_arr sh10 (Or.inl rfl)
  · rw [e]; exact zfx_arr sh236 (Or.inl rfl)
  · rw [e.1, e.2]; decide +kernel
  · rcases e with ⟨e1, e2 | e2⟩
    · rw [e1, e2]; decide +kernel
    · rw [e1, e2]; decide +kernel
end KM
