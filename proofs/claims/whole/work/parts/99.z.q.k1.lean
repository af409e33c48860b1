theorem uX8_9 : ∃ (C : String) (T : u_T) (N : Nat), vwCl[8]? = some (C, T, N) ∧ Cond.fieldLink RX8 9 (T 0).1 (T 0).2.1 (T 0).2.2.1 ∈ zTs := ⟨RX8, TX8, 10, rfl, zT_1 (i := 109) (by decide +kernel) rfl⟩
theorem uX8_15 : ∃ (C : String) (T : u_T) (N : Nat), vwCl[8]? = some (C, T, N) ∧ Cond.fieldLink RX8 15 (T 2).1 (T 2).2.1 (T 2).2.2.1 ∈ zTs := ⟨RX8, TX8, 10, rfl, zT_1 (i := 112) (by decide +kernel) rfl⟩
theorem uX8_18 : ∃ (C : String) (T : u_T) (N : Nat), vwCl[8]? = some (C, T, N) ∧ Cond.fieldLink RX8 18 (T 3).1 (T 3).2.1 (T 3).2.2.1 ∈ zTs := ⟨RX8, TX8, 10, rfl, zT_1 (i := 113) (by decide +kernel) rfl⟩
theorem uX8_21 : ∃ (C : String) (T : u_T) (N : Nat), vwCl[8]? = some (C, T, N) ∧ Cond.fieldLink RX8 21 (T 4).1 (T 4).2.1 (T 4).2.2.1 ∈ zTs := ⟨RX8, TX8, 10, rfl, zT_1 (i := 114) (by decide +kernel) rfl⟩
theorem uX4_12 : ∃ (C : String) (T : u_T) (N : Nat), vwCl[4]? = some (C, T, N) ∧ Cond.fieldLink RX4 12 (T 0).1 (T 0).2.1 (T 0).2.2.1 ∈ zTs := ⟨RX4, TX4, 8, rfl, zT_1 (i := 144) (by decide +kernel) rfl⟩
theorem uX1_9 : ∃ (C : String) (T : u_T) (N : Nat), vwCl[1]? = some (C, T, N) ∧ Cond.fieldLink RX1 9 (T 0).1 (T 0).2.1 (T 0).2.2.1 ∈ zTs := ⟨RX1, TX1, 9, rfl, zT_1 (i := 188) (by decide +kernel) rfl⟩
theorem uX1_15 : ∃ (C : String) (T : u_T) (N : Nat), vwCl[1]? = some (C, T, N) ∧ Cond.fieldLink RX1 15 (T 1).1 (T 1).2.1 (T 1).2.2.1 ∈ zTs := ⟨RX1, TX1, 9, rfl, zT_1 (i := 190) (by decide +kernel) rfl⟩
theorem uX1_18 : ∃ (C : String) (T : u_T) (N : Nat), vwCl[1]? = some (C, T, N) ∧ Cond.fieldLink RX1 18 (T 2).1 (T 2).2.1 (T 2).2.2.1 ∈ zTs := ⟨RX1, TX1, 9, rfl, zT_1 (i := 192) (by decide +kernel) rfl⟩
theorem uX1_21 : ∃ (C : String) (T : u_T) (N : Nat), vwCl[1]? = some (C, T, N) ∧ Cond.fieldLink RX1 21 (T 3).1 (T 3).2.1 (T 3).2.2.1 ∈ zTs := ⟨RX1, TX1, 9, rfl, zT_1 (i := 194) (by decide +kernel) rfl⟩
theorem uX1_24 : ∃ (C : String) (T : u_T) (N : Nat), vwCl[1]? = some (C, T, N) ∧ Cond.fieldLink RX1 24 (T 4).1 (T 4).2.1 (T 4).2.2.1 ∈ zTs := ⟨RX1, TX1, 9, rfl, zT_1 (i := 196) (by decide +kernel) rfl⟩
theorem uX1_27 : ∃ (C : String) (T : u_T) (N : Nat), vwCl[1]? = some (C, T, N) ∧ Cond.fieldLink RX1 27 (T 5).1 (T 5).2.1 (T 5).2.2.1 ∈ zTs := ⟨RX1, TX1, 9, rfl, zT_1 (i := 198) (by decide +kernel) rfl⟩
theorem uX1_30 : ∃ (C : String) (T : u_T) (N : Nat), vwCl[1]? = some (C, T, N) ∧ Cond.fieldLink RX1 30 (T 6).1 (T 6).2.1 (T 6).2.2.1 ∈ zTs := ⟨RX1, TX1, 9, rfl, zT_1 (i := 199) (by decide +kernel) rfl⟩
theorem uX1_33 : ∃ (C : String) (T : u_T) (N : Nat), vwCl[1]? = some (C, T, N) ∧ Cond.fieldLink RX1 33 (T 7).1 (T 7).2.1 (T 7).2.2.1 ∈ zTs := ⟨RX1, TX1, 9, rfl, zT_1 (i := 201) (by decide +kernel) rfl⟩
theorem uX6_9 : ∃ (C : String) (T : u_T) (N : Nat), vwCl[6]? = some (C, T, N) ∧ Cond.fieldLink RX6 9 (T 0).1 (T 0).2.1 (T 0).2.2.1 ∈ zTs := ⟨RX6, TX6, 10, rfl, zT_2 (i := 57) (by decide +kernel) rfl⟩
theorem uX6_15 : ∃ (C : String) (T : u_T) (N : Nat), vwCl[6]? = some (C, T, N) ∧ Cond.fieldLink RX6 15 (T 1).1 (T 1).2.1 (T 1).2.2.1 ∈ zTs := ⟨RX6, TX6, 10, rfl, zT_2 (i := 59) (by decide +kernel) rfl⟩
theorem uX6_18 : ∃ (C : String) (T : u_T) (N : Nat), vwCl[6]? = some (C, T, N) ∧ Cond.fieldLink RX6 18 (T 2).1 (T 2).2.1 (T 2).2.2.1 ∈ zTs := ⟨RX6, TX6, 10, rfl, zT_2 (i := 61) (by decide +kernel) rfl⟩
theorem uX6_21 : ∃ (C : String) (T : u_T) (N : Nat), vwCl[6]? = some (C, T, N) ∧ Cond.fieldLink RX6 21 (T 3).1 (T 3).2.1 (T 3).2.2.1 ∈ zTs := ⟨RX6, TX6, 10, rfl, zT_2 (i := 63) (by decide +kernel) rfl⟩
theorem uX6_24 : ∃ (C : String) (T : u_T) (N : Nat), vwCl[6]? = some (C, T, N) ∧ Cond.fieldLink RX6 24 (T 4).1 (T 4).2.1 (T 4).2.2.1 ∈ zTs := ⟨RX6, TX6, 10, rfl, zT_2 (i := 64) (by decide +kernel) rfl⟩
theorem uX6_27 : ∃ (C : String) (T : u_T) (N : Nat), vwCl[6]? = some (C, T, N) ∧ Cond.fieldLink RX6 27 (T 7).1 (T 7).2.1 (T 7).2.2.1 ∈ zTs := ⟨RX6, TX6, 10, rfl, zT_2 (i := 72) (by decide +kernel) rfl⟩
theorem uX6_30 : ∃ (C : String) (T : u_T) (N : Nat), vwCl[6]? = some (C, T, N) ∧ Cond.fieldLink RX6 30 (T 8).1 (T 8).2.1 (T 8).2.2.1 ∈ zTs := ⟨RX6, TX6, 10, rfl, zT_2 (i := 74) (by decide +kernel) rfl⟩
theorem uX2_9 : ∃ (C : String) (T : u_T) (N : Nat), vwCl[2]? = some (C, T, N) ∧ Cond.fieldLink RX2 9 (T 0).1 (T 0).2.1 (T 0).2.2.1 ∈ zTs := ⟨RX2, TX2, 6, rfl, zT_2 (i := 105) (by decide +kernel) rfl⟩
theorem uX2_15 : ∃ (C : String) (T : u_T) (N : Nat), vwCl[2]? = some (C, T, N) ∧ Cond.fieldLink RX2 15 (T 1).1 (T 1).2.1 (T 1).2.2.1 ∈ zTs := ⟨RX2, TX2, 6, rfl, zT_2 (i := 106) (by decide +kernel) rfl⟩
theorem uX2_18 : ∃ (C : String) (T : u_T) (N : Nat), vwCl[2]? = some (C, T, N) ∧ Cond.fieldLink RX2 18 (T 2).1 (T 2).2.1 (T 2).2.2.1 ∈ zTs := ⟨RX2, TX2, 6, rfl, zT_2 (i := 107) (by decide +kernel) rfl⟩
theorem uX2_22 : ∃ (C : String) (T : u_T) (N : Nat), vwCl[2]? = some (C, T, N) ∧ Cond.fieldLink RX2 22 (T 3).1 (T 3).2.1 (T 3).2.2.1 ∈ zTs := ⟨RX2, TX2, 6, rfl, zT_2 (i := 108) (by decide +kernel) rfl⟩
theorem uX9_10 : ∃ (C : String) (T : u_T) (N : Nat), vwCl[9]? = some (C, T, N) ∧ Cond.fieldLink RX9 10 (T 0).1 (T 0).2.1 (T 0).2.2.1 ∈ zTs := ⟨RX9, TX9, 5, rfl, zT_2 (i := 133) (by decide +kernel) rfl⟩
theorem uX9_16 : ∃ (C : String) (T : u_T) (N : Nat), vwCl[9]? = some (C, T, N) ∧ Cond.fieldLink RX9 16 (T 1).1 (T 1).2.1 (T 1).2.2.1 ∈ zTs := ⟨RX9, TX9, 5, rfl, zT_2 (i := 134) (by decide +kernel) rfl⟩
theorem uX9_19 : ∃ (C : String) (T : u_T) (N : Nat), vwCl[9]? = some (C, T, N) ∧ Cond.fieldLink RX9 19 (T 2).1 (T 2).2.1 (T 2).2.2.1 ∈ zTs := ⟨RX9, TX9, 5, rfl, zT_2 (i := 135) (by decide +kernel) rfl⟩
theorem uX9_22 : ∃ (C : String) (T : u_T) (N : Nat), vwCl[9]? = some (C, T, N) ∧ Cond.fieldLink RX9 22 (T 3).1 (T 3).2.1 (T 3).2.2.1 ∈ zTs := ⟨RX9, TX9, 5, rfl, zT_2 (i := 136) (by decide +kernel) rfl⟩
theorem uX9_25 : ∃ (C : String) (T : u_T) (N : Nat), vwCl[9]? = some (C, T, N) ∧ Cond.fieldLink RX9 25 (T 4).1 (T 4).2.1 (T 4).2.2.1 ∈ zTs := ⟨RX9, TX9, 5, rfl, zT_2 (i := 137) (by decide +kernel) rfl⟩
theorem uX0_9 : ∃ (C : String) (T : u_T) (N : Nat), vwCl[0]? = some (C, T, N) ∧ Cond.fieldLink RX0 9 (T 0).1 (T 0).2.1 (T 0).2.2.1 ∈ zTs := ⟨RX0, TX0, 13, rfl, zT_2 (i := 155) (by decide +kernel) rfl⟩
theorem uX0_15 : ∃ (C : String) (T : u_T) (N : Nat), vwCl[0]? = some (C, T, N) ∧ Cond.fieldLink RX0 15 (T 1).1 (T 1).2.1 (T 1).2.2.1 ∈ zTs := ⟨RX0, TX0, 13, rfl, zT_2 (i := 156) (by decide +kernel) rfl⟩
theorem uX0_18 : ∃ (C : String) (T : u_T) (N : Nat), vwCl[0]? = some (C, T, N) ∧ Cond.fieldLink RX0 18 (T 3).1 (T 3).2.1 (T 3).2.2.1 ∈ zTs := ⟨RX0, TX0, 13, rfl, zT_2 (i := 159) (by decide +kernel) rfl⟩
theorem uX0_21 : ∃ (C : String) (T : u_T) (N : Nat), vwCl[0]? = some (C, T, N) ∧ Cond.fieldLink RX0 21 (T 5).1 (T 5).2.1 (T 5).2.2.1 ∈ zTs := ⟨RX0, TX0, 13, rfl, zT_2 (i := 161) (by decide +kernel) rfl⟩
theorem uX0_24 : ∃ (C : String) (T : u_T) (N : Nat), vwCl[0]? = some (C, T, N) ∧ Cond.fieldLink RX0 24 (T 6).1 (T 6).2.1 (T 6).2.2.1 ∈ zTs := ⟨RX0, TX0, 13, rfl, zT_2 (i := 162) (by decide +kernel) rfl⟩
theorem uX0_27 : ∃ (C : String) (T : u_T) (N : Nat), vwCl[0]? = some (C, T, N) ∧ Cond.fieldLink RX0 27 (T 8).1 (T 8).2.1 (T 8).2.2.1 ∈ zTs := ⟨RX0, TX0, 13, rfl, zT_2 (i := 165) (by decide +kernel) rfl⟩
theorem uX0_30 : ∃ (C : String) (T : u_T) (N : Nat), vwCl[0]? = some (C, T, N) ∧ Cond.fieldLink RX0 30 (T 9).1 (T 9).2.1 (T 9).2.2.1 ∈ zTs := ⟨RX0, TX0, 13, rfl, zT_2 (i := 167) (by decide +kernel) rfl⟩
theorem uX5_7 : ∃ (C : String) (T : u_T) (N : Nat), vwCl[5]? = some (C, T, N) ∧ Cond.fieldLink RX5 7 (T 0).1 (T 0).2.1 (T 0).2.2.1 ∈ zTs := ⟨RX5, TX5, 2, rfl, zT_2 (i := 205) (by decide +kernel) rfl⟩
theorem uX7_9 : ∃ (C : String) (T : u_T) (N : Nat), vwCl[7]? = some (C, T, N) ∧ Cond.fieldLink RX7 9 (T 0).1 (T 0).2.1 (T 0).2.2.1 ∈ zTs := ⟨RX7, TX7, 5, rfl, zT_2 (i := 219) (by decide +kernel) rfl⟩
theorem uX7_15 : ∃ (C : String) (T : u_T) (N : Nat), vwCl[7]? = some (C, T, N) ∧ Cond.fieldLink RX7 15 (T 1).1 (T 1).2.1 (T 1).2.2.1 ∈ zTs := ⟨RX7, TX7, 5, rfl, zT_2 (i := 220) (by decide +kernel) rfl⟩
theorem uX7_21 : ∃ (C : String) (T : u_T) (N : Nat), vwCl[7]? = some (C, T, N) ∧ Cond.fieldLink RX7 21 (T 4).1 (T 4).2.1 (T 4).2.2.1 ∈ zTs := ⟨RX7, TX7, 5, rfl, zT_2 (i := 225) (by decide +kernel) rfl⟩
theorem nd_tl {o : Int} (ho : zND o) : ∀ i, (i < 0 ∨ 8 ≤ i) → zfx o i = 0 := by
  have q : ∀ o ∈ ([31, 40, 49, 58, 67, 76, 85, 94, 103, 112, 121, 130, 139, 148, 189, 201, 213, 225] : List Int), (zfxL.getD o.toNat []).length = 8 := by decide +kernel
  exact zfx_tl (q o ho)
theorem sc_tl {o : Int} (ho : zSC o) : ∀ i, (i < 0 ∨ 5 ≤ i) → zfx o i = 0 := by
  have q : ∀ o ∈ ([186, 198, 210, 222] : List Int), (zfxL.getD o.toNat []).length = 5 := by decide +kernel
  exact zfx_tl (q o ho)
theorem sc_z2 {o : Int} (ho : zSC o) : zfx o 2 = 0 ∧ zfx o 3 = 0 := by
  have q : ∀ o ∈ ([186, 198, 210, 222] : List Int), zfx o 2 = 0 ∧ zfx o 3 = 0 := by decide +kernel
  exact q o ho
section KI
variable {G : zG} {d : Nat} {M : zM} {Q : zV → zM → Prop}
set_option maxRecDepth 20000 in
set_option maxHeartbeats 4000000 in
theorem k_X1 (h0 : ∀ a i, G.2.2.2.2.2.2 a i = 0) {o : Nat} (ho : zND (o : Int)) (hM : ∀ a y, (o : Int) ≤ a → M a y = 0) (hq : Q (9, 0) (kq_f zfx M (o : Int) ((o + 8 : Nat) : Int))) : Z G (d + 1) mX1_init 0 [(2, (o : Int))] [] o (o + 8) M Q := by
  have hp : 1 ≤ (o : Int) := by have := nd_pos ho; omega
  refine k_M (M' := kq zfx M (o : Int) (o : Int) ((o : Int) + 1) (o : Int) 0 0) (kq_0 (fun y => hM _ y (Int.le_refl _)) (fun y => hM _ y (Int.le_refl _)) (by omega)) ?_
  have hM := fun (a y : Int) (h : (o : Int) + 1 ≤ a) => hM a y (by omega)
  refine z_aloadn dX1_init_0 rfl (Or.inl rfl) ?_
  refine z_objinit dX1_init_1 loX1_3 oi_i (by omega) (Nat.le_of_ble_eq_true rfl) ?_
  refine z_aloadn dX1_init_4 rfl (Or.inl rfl) ?_
  refine z_sipush (k := 300) dX1_init_5 ⟨by decide, ⟨by decide, by decide⟩⟩ ?_
  refine z_newi (len := 300) dX1_init_8 ac_int (by have q := nd_1 ho; rw [show ((o : Int) + 1).toNat = o + 1 by omega] at q; exact q) (fun y => kq_fr (n' := ((o + 1 : Nat) : Int)) hM (by omega) (by omega) (by omega) (Or.inl (by omega)) _ y (Int.le_refl _)) (by omega) ?_
  refine k_M (M' := (kq zfx M (o : Int) (o : Int) ((o : Int) + 1) ((o + 1 : Nat) : Int) 0 0)) (kq_n (by omega) (fun y => hM _ y (by omega)) (fun y => zfx_arr (show zsh ((o + 1 : Nat) : Int).toNat = (100, 300) by have q := nd_1 ho; rw [show (o : Int) + 1 = ((o + 1 : Nat) : Int) by omega] at q; exact q) (Or.inl rfl))) ?_
  show Z G (d + 1) mX1_init 10 [(2, (o : Int))] [(2, ((o + 1 : Nat) : Int)), (2, (o : Int))] (o + 1) (o + 8) (kq zfx M (o : Int) (o : Int) ((o : Int) + 1) ((o + 1 : Nat) : Int) 0 0) Q
  refine z_putfinal (v := ((o + 1 : Nat) : Int)) (k := 0) dX1_init_10 fX1_9 uX1_9 (nd_0 ho) (by decide) rfl r1_0 rfl ⟨by omega, by omega⟩ (by omega) (h0 _ _) ?_
  refine k_M (M' := (kq zfx M (o : Int) (o : Int) ((o : Int) + 1) ((o + 1 : Nat) : Int) 1 0)) (kq_p (j := 0) ⟨by decide, by decide⟩ (fun i h1 h2 => absurd h2 (by omega)) (by have q : zfx (o : Int) 0 = (o : Int) + 1 := nd_x0 ho; omega)) ?_
  show Z G (d + 1) mX1_init 13 [(2, (o : Int))] [] (o + 1) (o + 8) (kq zfx M (o : Int) (o : Int) ((o : Int) + 1) ((o + 1 : Nat) : Int) 1 0) Q
  refine z_aloadn dX1_init_13 rfl (Or.inl rfl) ?_
  refine z_sipush (k := 300) dX1_init_14 ⟨by decide, ⟨by decide, by decide⟩⟩ ?_
  refine z_newi (len := 300) dX1_init_17 ac_int (by have q := nd_2 ho; rw [show ((o : Int) + 2).toNat = o + 2 by omega] at q; exact q) (fun y => kq_fr (n' := ((o + 2 : Nat) : Int)) hM (by omega) (by omega) (by omega) (Or.inl (by omega)) _ y (Int.le_refl _)) (by omega) ?_
  refine k_M (M' := (kq zfx M (o : Int) (o : Int) ((o : Int) + 1) ((o + 2 : Nat) : Int) 1 0)) (kq_n (by omega) (fun y => hM _ y (by omega)) (fun y => zfx_arr (show zsh ((o + 2 : Nat) : Int).toNat = (100, 300) by have q := nd_2 ho; rw [show (o : Int) + 2 = ((o + 2 : Nat) : Int) by omega] at q; exact q) (Or.inl rfl))) ?_
  show Z G (d + 1) mX1_init 19 [(2, (o : Int))] [(2, ((o + 2 : Nat) : Int)), (2, (o : Int))] (o + 2) (o + 8) (kq zfx M (o : Int) (o : Int) ((o : Int) + 1) ((o + 2 : Nat) : Int) 1 0) Q
  refine z_putfinal (v := ((o + 2 : Nat) : Int)) (k := 1) dX1_init_19 fX1_15 uX1_15 (nd_0 ho) (by decide) rfl r1_1 rfl ⟨by omega, by omega⟩ (by omega) (h0 _ _) ?_
  refine k_M (M' := (kq zfx M (o : Int) (o : Int) ((o : Int) + 1) ((o + 2 : Nat) : Int) 2 0)) (kq_p (j := 1) ⟨by decide, by decide⟩ (fun i h1 h2 => absurd h2 (by omega)) (by have q : zfx (o : Int) 1 = (o : Int) + 2 := nd_x1 ho; omega)) ?_
  show Z G (d + 1) mX1_init 22 [(2, (o : Int))] [] (o + 2) (o + 8) (kq zfx M (o : Int) (o : Int) ((o : Int) + 1) ((o + 2 : Nat) : Int) 2 0) Q
  refine z_aloadn dX1_init_22 rfl (Or.inl rfl) ?_
  refine z_sipush (k := 300) dX1_init_23 ⟨by decide, ⟨by decide, by decide⟩⟩ ?_
  refine z_newi (len := 300) dX1_init_26 ac_int (by have q := nd_3 ho; rw [show ((o : Int) + 3).toNat = o + 3 by omega] at q; exact q) (fun y => kq_fr (n' := ((o + 3 : Nat) : Int)) hM (by omega) (by omega) (by omega) (Or.inl (by omega)) _ y (Int.le_refl _)) (by omega) ?_
  refine k_M (M' := (kq zfx M (o : Int) (o : Int) ((o : Int) + 1) ((o + 3 : Nat) : Int) 2 0)) (kq_n (by omega) (fun y => hM _ y (by omega)) (fun y => zfx_arr (show zsh ((o + 3 : Nat) : Int).toNat = (100, 300) by have q := nd_3 ho; rw [show (o : Int) + 3 = ((o + 3 : Nat) : Int) by omega] at q; exact q) (Or.inl rfl))) ?_
  show Z G (d + 1) mX1_init 28 [(2, (o : Int))] [(2, ((o + 3 : Nat) : Int)), (2, (o : Int))] (o + 3) (o + 8) (kq zfx M (o : Int) (o : Int) ((o : Int) + 1) ((o + 3 : Nat) : Int) 2 0) Q
  refine z_putfinal (v := ((o + 3 : Nat) : Int)) (k := 2) dX1_init_28 fX1_18 uX1_18 (nd_0 ho) (by decide) rfl r1_2 rfl ⟨by omega, by omega⟩ (by omega) (h0 _ _) ?_
  refine k_M (M' := (kq zfx M (o : Int) (o : Int) ((o : Int) + 1) ((o + 3 : Nat) : Int) 3 0)) (kq_p (j := 2) ⟨by decide, by decide⟩ (fun i h1 h2 => absurd h2 (by omega)) (by have q : zfx (o : Int) 2 = (o : Int) + 3 := nd_x2 ho; omega)) ?_
  show Z G (d + 1) mX1_init 31 [(2, (o : Int))] [] (o + 3) (o + 8) (kq zfx M (o : Int) (o : Int) ((o : Int) + 1) ((o + 3 : Nat) : Int) 3 0) Q
  refine z_aloadn dX1_init_31 rfl (Or.inl rfl) ?_
  refine z_sipush (k := 300) dX1_init_32 ⟨by decide, ⟨by decide, by decide⟩⟩ ?_
  refine z_newi (len := 300) dX1_init_35 ac_int (by have q := nd_4 ho; rw [show ((o : Int) + 4).toNat = o + 4 by omega] at q; exact q) (fun y => kq_fr (n' := ((o + 4 : Nat) : Int)) hM (by omega) (by omega) (by omega) (Or.inl (by omega)) _ y (Int.le_refl _)) (by omega) ?_
  refine k_M (M' := (kq zfx M (o : Int) (o : Int) ((o : Int) + 1) ((o + 4 : Nat) : Int) 3 0)) (kq_n (by omega) (fun y => hM _ y (by omega)) (fun y => zfx_arr (show zsh ((o + 4 : Nat) : Int).toNat = (100, 300) by have q := nd_4 ho; rw [show (o : Int) + 4 = ((o + 4 : Nat) : Int) by omega] at q; exact q) (Or.inl rfl))) ?_
  show Z G (d + 1) mX1_init 37 [(2, (o : Int))] [(2, ((o + 4 : Nat) : Int)), (2, (o : Int))] (o + 4) (o + 8) (kq zfx M (o : Int) (o : Int) ((o : Int) + 1) ((o + 4 : Nat) : Int) 3 0) Q
  refine z_putfinal (v := ((o + 4 : Nat) : Int)) (k := 3) dX1_init_37 fX1_21 uX1_21 (nd_0 ho) (by decide) rfl r1_3 rfl ⟨by omega, by omega⟩ (by omega) (h0 _ _) ?_
  refine k_M (M' := (kq zfx M (o : Int) (o : Int) ((o : Int) + 1) ((o + 4 : Nat) : Int) 4 0)) (kq_p (j := 3) ⟨by decide, by decide⟩ (fun i h1 h2 => absurd h2 (by omega)) (by have q : zfx (o : Int) 3 = (o : Int) + 4 := nd_x3 ho; omega)) ?_
  show Z G (d + 1) mX1_init 40 [(2, (o : Int))] [] (o + 4) (o + 8) (kq zfx M (o : Int) (o : Int) ((o : Int) + 1) ((o + 4 : Nat) : Int) 4 0) Q
  refine z_aloadn dX1_init_40 rfl (Or.inl rfl) ?_
  refine z_sipush (k := 300) dX1_init_41 ⟨by decide, ⟨by decide, by decide⟩⟩ ?_
  refine z_newi (len := 300) dX1_init_44 ac_int (by have q := nd_5 ho; rw [show ((o : Int) + 5).toNat = o + 5 by omega] at q; exact q) (fun y => kq_fr (n' := ((o + 5 : Nat) : Int)) hM (by omega) (by omega) (by omega) (Or.inl (by omega)) _ y (Int.le_refl _)) (by omega) ?_
  refine k_M (M' := (kq zfx M (o : Int) (o : Int) ((o : Int) + 1) ((o + 5 : Nat) : Int) 4 0)) (kq_n (by omega) (fun y => hM _ y (by omega)) (fun y => zfx_arr (show zsh ((o + 5 : Nat) : Int).toNat = (100, 300) by have q := nd_5 ho; rw [show (o : Int) + 5 = ((o + 5 : Nat) : Int) by omega] at q; exact q) (Or.inl rfl))) ?_
  show Z G (d + 1) mX1_init 46 [(2, (o : Int))] [(2, ((o + 5 : Nat) : Int)), (2, (o : Int))] (o + 5) (o + 8) (kq zfx M (o : Int) (o : Int) ((o : Int) + 1) ((o + 5 : Nat) : Int) 4 0) Q
  refine z_putfinal (v := ((o + 5 : Nat) : Int)) (k := 4) dX1_init_46 fX1_24 uX1_24 (nd_0 ho) (by decide) rfl r1_4 rfl ⟨by omega, by omega⟩ (by omega) (h0 _ _) ?_
  refine k_M (M' := (kq zfx M (o : Int) (o : Int) ((o : Int) + 1) ((o + 5 : Nat) : Int) 5 0)) (kq_p (j := 4) ⟨by decide, by decide⟩ (fun i h1 h2 => absurd h2 (by omega)) (by have q : zfx (o : Int) 4 = (o : Int) + 5 := nd_x4 ho; omega)) ?_
  show Z G (d + 1) mX1_init 49 [(2, (o : Int))] [] (o + 5) (o + 8) (kq zfx M (o : Int) (o : Int) ((o : Int) + 1) ((o + 5 : Nat) : Int) 5 0) Q
  refine z_aloadn dX1_init_49 rfl (Or.inl rfl) ?_
  refine z_sipush (k := 300) dX1_init_50 ⟨by decide, ⟨by decide, by decide⟩⟩ ?_
  refine z_newi (len := 300) dX1_init_53 ac_int (by have q := nd_6 ho; rw [show ((o : Int) + 6).toNat = o + 6 by omega] at q; exact q) (fun y => kq_fr (n' := ((o + 6 : Nat) : Int)) hM (by omega) (by omega) (by omega) (Or.inl (by omega)) _ y (Int.le_refl _)) (by omega) ?_
  refine k_M (M' := (kq zfx M (o : Int) (o : Int) ((o : Int) + 1) ((o + 6 : Nat) : Int) 5 0)) (kq_n (by omega) (fun y => hM _ y (by omega)) (fun y => zfx_arr (show zsh ((o + 6 : Nat) : Int).toNat = (100, 300) by have q := nd_6 ho; rw [show (o : Int) + 6 = ((o + 6 : Nat) : Int) by omega] at q; exact q) (Or.inl rfl))) ?_
  show Z G (d + 1) mX1_init 55 [(2, (o : Int))] [(2, ((o + 6 : Nat) : Int)), (2, (o : Int))] (o + 6) (o + 8) (kq zfx M (o : Int) (o : Int) ((o : Int) + 1) ((o + 6 : Nat) : Int) 5 0) Q
  refine z_putfinal (v := ((o + 6 : Nat) : Int)) (k := 5) dX1_init_55 fX1_27 uX1_27 (nd_0 ho) (by decide) rfl r1_5 rfl ⟨by omega, by omega⟩ (by omega) (h0 _ _) ?_
  refine k_M (M' := (kq zfx M (o : Int) (o : Int) ((o : Int) + 1) ((o + 6 : Nat) : Int) 6 0)) (kq_p (j := 5) ⟨by decide, by decide⟩ (fun i h1 h2 => absurd h2 (by omega)) (by have q : zfx (o : Int) 5 = (o : Int) + 6 := nd_x5 ho; omega)) ?_
  show Z G (d + 1) mX1_init 58 [(2, (o : Int))] [] (o + 6) (o + 8) (kq zfx M (o : Int) (o : Int) ((o : Int) + 1) ((o + 6 : Nat) : Int) 6 0) Q
  refine z_aloadn dX1_init_58 rfl (Or.inl rfl) ?_
  refine z_sipush (k := 300) dX1_init_59 ⟨by decide, ⟨by decide, by decide⟩⟩ ?_
  refine z_newi (len := 300) dX1_init_62 ac_int (by have q := nd_7 ho; rw [show ((o : Int) + 7).toNat = o + 7 by omega] at q; exact q) (fun y => kq_fr (n' := ((o + 7 : Nat) : Int)) hM (by omega) (by omega) (by omega) (Or.inl (by omega)) _ y (Int.le_refl _)) (by omega) ?_
  refine k_M (M' := (kq zfx M (o : Int) (o : Int) ((o : Int) + 1) ((o + 7 : Nat) : Int) 6 0)) (kq_n (by omega) (fun y => hM _ y (by omega)) (fun y => zfx_arr (show zsh ((o + 7 : Nat) : Int).toNat = (100, 300) by have q := nd_7 ho; rw [show (o : Int) + 7 = ((o + 7 : Nat) : Int) by omega] at q; exact q) (Or.inl rfl))) ?_
  show Z G (d + 1) mX1_init 64 [(2, (o : Int))] [(2, ((o + 7 : Nat) : Int)), (2, (o : Int))] (o + 7) (o + 8) (kq zfx M (o : Int) (o : Int) ((o : Int) + 1) ((o + 7 : Nat) : Int) 6 0) Q
  refine z_putfinal (v := ((o + 7 : Nat) : Int)) (k := 6) dX1_init_64 fX1_30 uX1_30 (nd_0 ho) (by decide) rfl r1_6 rfl ⟨by omega, by omega⟩ (by omega) (h0 _ _) ?_
  refine k_M (M' := (kq zfx M (o : Int) (o : Int) ((o : Int) + 1) ((o + 7 : Nat) : Int) 7 0)) (kq_p (j := 6) ⟨by decide, by decide⟩ (fun i h1 h2 => absurd h2 (by omega)) (by have q : zfx (o : Int) 6 = (o : Int) + 7 := nd_x6 ho; omega)) ?_
  show Z G (d + 1) mX1_init 67 [(2, (o : Int))] [] (o + 7) (o + 8) (kq zfx M (o : Int) (o : Int) ((o : Int) + 1) ((o + 7 : Nat) : Int) 7 0) Q
  refine z_aloadn dX1_init_67 rfl (Or.inl rfl) ?_
  refine z_bipush (k := 16) dX1_init_68 ⟨by decide, ⟨by decide, by decide⟩⟩ ?_
  refine z_newi (len := 16) dX1_init_70 ac_int (by have q := nd_8 ho; rw [show ((o : Int) + 8).toNat = o + 8 by omega] at q; exact q) (fun y => kq_fr (n' := ((o + 8 : Nat) : Int)) hM (by omega) (by omega) (by omega) (Or.inl (by omega)) _ y (Int.le_refl _)) (by omega) ?_
  refine k_M (M' := (kq zfx M (o : Int) (o : Int) ((o : Int) + 1) ((o + 8 : Nat) : Int) 7 0)) (kq_n (by omega) (fun y => hM _ y (by omega)) (fun y => zfx_arr (show zsh ((o + 8 : Nat) : Int).toNat = (100, 16) by have q := nd_8 ho; rw [show (o : Int) + 8 = ((o + 8 : Nat) : Int) by omega] at q; exact q) (Or.inl rfl))) ?_
  show Z G (d + 1) mX1_init 72 [(2, (o : Int))] [(2, ((o + 8 : Nat) : Int)), (2, (o : Int))] (o + 8) (o + 8) (kq zfx M (o : Int) (o : Int) ((o : Int) + 1) ((o + 8 : Nat) : Int) 7 0) Q
  refine z_putfinal (v := ((o + 8 : Nat) : Int)) (k := 7) dX1_init_72 fX1_33 uX1_33 (nd_0 ho) (by decide) rfl r1_7 rfl ⟨by omega, by omega⟩ (by omega) (h0 _ _) ?_
  refine k_M (M' := (kq zfx M (o : Int) (o : Int) ((o : Int) + 1) ((o + 8 : Nat) : Int) 8 0)) (kq_p (j := 7) ⟨by decide, by decide⟩ (fun i h1 h2 => absurd h2 (by omega)) (by have q : zfx (o : Int) 7 = (o : Int) + 8 := nd_x7 ho; omega)) ?_
  show Z G (d + 1) mX1_init 75 [(2, (o : Int))] [] (o + 8) (o + 8) (kq zfx M (o : Int) (o : Int) ((o : Int) + 1) ((o + 8 : Nat) : Int) 8 0) Q
  refine z_return dX1_init_75 rfl rfl ?_
  rw [kq_e rfl (by omega) (nd_tl ho) (Or.inl rfl)]
  exact hq
set_option maxRecDepth 20000 in
set_option maxHeartbeats 4000000 in
theorem k_X8 (h0 : ∀ a i, G.2.2.2.2.2.2 a i = 0) (hM : ∀ a y, (13 : Int) ≤ a → M a y = 0) (hq : Q (9, 0) (kq_f zfx M 13 17)) : Z G (d + 1) mX8_init 0 [(2, 13)] [] 13 17 M Q := by
  refine k_M (M' := kq zfx M 13 13 14 13 0 0) (kq_0 (fun y => hM _ y (by decide)) (fun y => hM _ y (by decide)) (by decide)) ?_
  have hM := fun (a y : Int) (h : (14 : Int) ≤ a) => hM a y (by omega)
  refine z_aloadn dX8_init_0 rfl (Or.inl rfl) ?_
  refine z_objinit dX8_init_1 loX8_3 oi_i (by decide) (Nat.le_of_ble_eq_true rfl) ?_
  refine z_aloadn dX8_init_4 rfl (Or.inl rfl) ?_
  refine z_sipush (k := 300) dX8_init_5 ⟨by decide, ⟨by decide, by decide⟩⟩ ?_
  refine z_newi (len := 300) dX8_init_8 ac_int (by decide +kernel) (fun y => kq_fr (n' := 14) hM (by decide) (by decide) (by decide) (Or.inl (by decide)) _ y (by decide)) (by decide) ?_
  refine k_M (M' := (kq zfx M 13 13 14 14 0 0)) (kq_n (by decide) (fun y => hM _ y (by decide)) (fun y => zfx_arr sh14 (Or.inl rfl))) ?_
  show Z G (d + 1) mX8_init 10 [(2, 13)] [(2, 14), (2, 13)] 14 17 (kq zfx M 13 13 14 14 0 0) Q
  refine z_putfinal (v := 14) (k := 0) dX8_init_10 fX8_9 uX8_9 sh13 (by decide) rfl r8_0 rfl ⟨by decide, by decide⟩ (by decide) (h0 _ _) ?_
  refine k_M (M' := (kq zfx M 13 13 14 14 1 0)) (kq_p (j := 0) ⟨by decide, by decide⟩ (fun i h1 h2 => absurd h2 (by omega)) (by decide +kernel)) ?_
  show Z G (d + 1) mX8_init 13 [(2, 13)] [] 14 17 (kq zfx M 13 13 14 14 1 0) Q
  refine z_aloadn dX8_init_13 rfl (Or.inl rfl) ?_
  refine z_sipush (k := 301) dX8_init_14 ⟨by decide, ⟨by decide, by decide⟩⟩ ?_
  refine z_newi (len := 301) dX8_init_17 ac_int (by decide +kernel) (fun y => kq_fr (n' := 15) hM (by decide) (by decide) (by decide) (Or.inl (by decide)) _ y (by decide)) (by decide) ?_
  refine k_M (M' := (kq zfx M 13 13 14 15 1 0)) (kq_n (by decide) (fun y => hM _ y (by decide)) (fun y => zfx_arr sh15 (Or.inl rfl))) ?_
  show Z G (d + 1) mX8_init 19 [(2, 13)] [(2, 15), (2, 13)] 15 17 (kq zfx M 13 13 14 15 1 0) Q
  refine z_putfinal (v := 15) (k := 2) dX8_init_19 fX8_15 uX8_15 sh13 (by decide) rfl r8_2 rfl ⟨by decide, by decide⟩ (by decide) (h0 _ _) ?_
  refine k_M (M' := (kq zfx M 13 13 14 15 3 0)) (kq_p (j := 2) ⟨by decide, by decide⟩ (fun i h1 h2 => by rw [show i = 1 by omega]; decide +kernel) (by decide +kernel)) ?_
  show Z G (d + 1) mX8_init 22 [(2, 13)] [] 15 17 (kq zfx M 13 13 14 15 3 0) Q
  refine z_aloadn dX8_init_22 rfl (Or.inl rfl) ?_
  refine z_sipush (k := 301) dX8_init_23 ⟨by decide, ⟨by decide, by decide⟩⟩ ?_
  refine z_newi (len := 301) dX8_init_26 ac_int (by decide +kernel) (fun y => kq_fr (n' := 16) hM (by decide) (by decide) (by decide) (Or.inl (by decide)) _ y (by decide)) (by decide) ?_
  refine k_M (M' := (kq zfx M 13 13 14 16 3 0)) (kq_n (by decide) (fun y => hM _ y (by decide)) (fun y => zfx_arr sh16 (Or.inl rfl))) ?_
  show Z G (d + 1) mX8_init 28 [(2, 13)] [(2, 16), (2, 13)] 16 17 (kq zfx M 13 13 14 16 3 0) Q
  refine z_putfinal (v := 16) (k := 3) dX8_init_28 fX8_18 uX8_18 sh13 (by decide) rfl r8_3 rfl ⟨by decide, by decide⟩ (by decide) (h0 _ _) ?_
  refine k_M (M' := (kq zfx M 13 13 14 16 4 0)) (kq_p (j := 3) ⟨by decide, by decide⟩ (fun i h1 h2 => absurd h2 (by omega)) (by decide +kernel)) ?_
  show Z G (d + 1) mX8_init 31 [(2, 13)] [] 16 17 (kq zfx M 13 13 14 16 4 0) Q
  refine z_aloadn dX8_init_31 rfl (Or.inl rfl) ?_
  refine z_sipush (k := 301) dX8_init_32 ⟨by decide, ⟨by decide, by decide⟩⟩ ?_
  refine z_newi (len := 301) dX8_init_35 ac_int (by decide +kernel) (fun y => kq_fr (n' := 17) hM (by decide) (by decide) (by decide) (Or.inl (by decide)) _ y (by decide)) (by decide) ?_
  refine k_M (M' := (kq zfx M 13 13 14 17 4 0)) (kq_n (by decide) (fun y => hM _ y (by decide)) (fun y => zfx_arr sh17 (Or.inl rfl))) ?_
  show Z G (d + 1) mX8_init 37 [(2, 13)] [(2, 17), (2, 13)] 17 17 (kq zfx M 13 13 14 17 4 0) Q
  refine z_putfinal (v := 17) (k := 4) dX8_init_37 fX8_21 uX8_21 sh13 (by decide) rfl r8_4 rfl ⟨by decide, by decide⟩ (by decide) (h0 _ _) ?_
  refine k_M (M' := (kq zfx M 13 13 14 17 5 0)) (kq_p (j := 4) ⟨by decide, by decide⟩ (fun i h1 h2 => absurd h2 (by omega)) (by decide +kernel)) ?_
  show Z G (d + 1) mX8_init 40 [(2, 13)] [] 17 17 (kq zfx M 13 13 14 17 5 0) Q
  refine z_return dX8_init_40 rfl rfl ?_
  rw [show kq zfx M 13 13 14 17 5 0 = kq_f zfx M 13 17 from kq_e (by decide) (by decide) (zfx_tl (K := 5) (by decide +kernel)) (Or.inl rfl)]
  exact hq
set_option maxRecDepth 20000 in
set_option maxHeartbeats 4000000 in
theorem k_X4 (h0 : ∀ a i, G.2.2.2.2.2.2 a i = 0) (hM : ∀ a y, (12 : Int) ≤ a → M a y = 0) (hq : Q (9, 0) (kq_f zfx M 12 17)) : Z G (d + 2) mX4_init 0 [(2, 12)] [] 12 17 M Q := by
  refine k_M (M' := kq zfx M 12 12 13 12 0 0) (kq_0 (fun y => hM _ y (by decide)) (fun y => hM _ y (by decide)) (by decide)) ?_
  have hM := fun (a y : Int) (h : (13 : Int) ≤ a) => hM a y (by omega)
  refine z_aloadn dX4_init_0 rfl (Or.inl rfl) ?_
  refine z_objinit dX4_init_1 loX4_3 oi_i (by decide) (Nat.le_of_ble_eq_true rfl) ?_
  refine z_aloadn dX4_init_4 rfl (Or.inl rfl) ?_
  refine z_new dX4_init_5 nX4_9 (by decide +kernel) (by decide) (fun y => kq_fr (n' := 13) hM (by decide) (by decide) (by decide) (Or.inl (by decide)) _ y (by decide)) (by decide) ?_
  show Z G (d + 2) mX4_init 8 [(2, 12)] [(2, 13), (2, 12)] 13 17 (kq zfx M 12 12 13 12 0 0) Q
  refine z_dup dX4_init_8 (show (2 : Nat) ≠ 1 by decide) ?_
  refine k_ci (mt2 := mX8_init) (b := 13) (as := []) (st := [(2, 13), (2, 12)]) (n2 := 17) (en := [(2, 13)]) dX4_init_9 lX4_11 kX8_init iX8_init rfl rfl rfl (by decide) (Nat.le_of_ble_eq_true rfl) (Nat.le_of_ble_eq_true rfl) ⟨by decide, by decide⟩ rfl (k_X8 h0 (fun a y h => kq_fr (n' := 13) hM (by decide) (by decide) (by decide) (Or.inl (by decide)) a y h) ?_)
  refine k_M (M' := (kq zfx M 12 12 13 17 0 0)) (kq_o (by decide) (by decide) (Or.inl (by decide)) (by decide) (by decide)) ?_
  show Z G (d + 2) mX4_init 12 [(2, 12)] [(2, 13), (2, 12)] 17 17 (kq zfx M 12 12 13 17 0 0) Q
  refine z_putfinal (v := 13) (k := 0) dX4_init_12 fX4_12 uX4_12 sh12 (by decide) rfl r4_0 rfl ⟨by decide, by decide⟩ (by decide) (h0 _ _) ?_
  refine k_M (M' := (kq zfx M 12 12 13 17 1 0)) (kq_p (j := 0) ⟨by decide, by decide⟩ (fun i h1 h2 => absurd h2 (by omega)) (by decide +kernel)) ?_
  show Z G (d + 2) mX4_init 15 [(2, 12)] [] 17 17 (kq zfx M 12 12 13 17 1 0) Q
  refine z_return dX4_init_15 rfl rfl ?_
  rw [show kq zfx M 12 12 13 17 1 0 = kq_f zfx M 12 17 from kq_e (by decide) (by decide) (zfx_tl (K := 1) (by decide +kernel)) (Or.inl rfl)]
  exact hq
set_option maxRecDepth 20000 in
set_option maxHeartbeats 4000000 in
theorem k_X6 (h0 : ∀ a i, G.2.2.2.2.2.2 a i = 0) (hM : ∀ a y, (157 : Int) ≤ a → M a y = 0) (hq : Q (9, 0) (kq_f zfx M 157 164)) : Z G (d + 1) mX6_init 0 [(2, 157)] [] 157 164 M Q := by
  refine k_M (M' := kq zfx M 157 157 158 157 0 0) (kq_0 (fun y => hM _ y (by decide)) (fun y => hM _ y (by decide)) (by decide)) ?_
  have hM := fun (a y : Int) (h : (158 : Int) ≤ a) => hM a y (by omega)
  refine z_aloadn dX6_init_0 rfl (Or.inl rfl) ?_
  refine z_objinit dX6_init_1 loX6_3 oi_i (by decide) (Nat.le_of_ble_eq_true rfl) ?_
  refine z_aloadn dX6_init_4 rfl (Or.inl rfl) ?_
  refine z_bipush (k := 6) dX6_init_5 ⟨by decide, ⟨by decide, by decide⟩⟩ ?_
  refine z_newi (len := 6) dX6_init_7 ac_int (by decide +kernel) (fun y => kq_fr (n' := 158) hM (by decide) (by decide) (by decide) (Or.inl (by decide)) _ y (by decide)) (by decide) ?_
  refine k_M (M' := (kq zfx M 157 157 158 158 0 0)) (kq_n (by decide) (fun y => hM _ y (by decide)) (fun y => zfx_arr sh158 (Or.inl rfl))) ?_
  show Z G (d + 1) mX6_init 9 [(2, 157)] [(2, 158), (2, 157)] 158 164 (kq zfx M 157 157 158 158 0 0) Q
  refine z_putfinal (v := 158) (k := 0) dX6_init_9 fX6_9 uX6_9 sh157 (by decide) rfl r6_0 rfl ⟨by decide, by decide⟩ (by decide) (h0 _ _) ?_
  refine k_M (M' := (kq zfx M 157 157 158 158 1 0)) (kq_p (j := 0) ⟨by decide, by decide⟩ (fun i h1 h2 => absurd h2 (by omega)) (by decide +kernel)) ?_
  show Z G (d + 1) mX6_init 12 [(2, 157)] [] 158 164 (kq zfx M 157 157 158 158 1 0) Q
  refine z_aloadn dX6_init_12 rfl (Or.inl rfl) ?_
  refine z_bipush (k := 6) dX6_init_13 ⟨by decide, ⟨by decide, by decide⟩⟩ ?_
  refine z_newi (len := 6) dX6_init_15 ac_int (by decide +kernel) (fun y => kq_fr (n' := 159) hM (by decide) (by decide) (by decide) (Or.inl (by decide)) _ y (by decide)) (by decide) ?_
  refine k_M (M' := (kq zfx M 157 157 158 159 1 0)) (kq_n (by decide) (fun y => hM _ y (by decide)) (fun y => zfx_arr sh159 (Or.inl rfl))) ?_
  show Z G (d + 1) mX6_init 17 [(2, 157)] [(2, 159), (2, 157)] 159 164 (kq zfx M 157 157 158 159 1 0) Q
  refine z_putfinal (v := 159) (k := 1) dX6_init_17 fX6_15 uX6_15 sh157 (by decide) rfl r6_1 rfl ⟨by decide, by decide⟩ (by decide) (h0 _ _) ?_
  refine k_M (M' := (kq zfx M 157 157 158 159 2 0)) (kq_p (j := 1) ⟨by decide, by decide⟩ (fun i h1 h2 => absurd h2 (by omega)) (by decide +kernel)) ?_
  show Z G (d + 1) mX6_init 20 [(2, 157)] [] 159 164 (kq zfx M 157 157 158 159 2 0) Q
  refine z_aloadn dX6_init_20 rfl (Or.inl rfl) ?_
  refine z_bipush (k := 6) dX6_init_21 ⟨by decide, ⟨by decide, by decide⟩⟩ ?_
  refine z_newi (len := 6) dX6_init_23 ac_int (by decide +kernel) (fun y => kq_fr (n' := 160) hM (by decide) (by decide) (by decide) (Or.inl (by decide)) _ y (by decide)) (by decide) ?_
  refine k_M (M' := (kq zfx M 157 157 158 160 2 0)) (kq_n (by decide) (fun y => hM _ y (by decide)) (fun y => zfx_arr sh160 (Or.inl rfl))) ?_
  show Z G (d + 1) mX6_init 25 [(2, 157)] [(2, 160), (2, 157)] 160 164 (kq zfx M 157 157 158 160 2 0) Q
  refine z_putfinal (v := 160) (k := 2) dX6_init_25 fX6_18 uX6_18 sh157 (by decide) rfl r6_2 rfl ⟨by decide, by decide⟩ (by decide) (h0 _ _) ?_
  refine k_M (M' := (kq zfx M 157 157 158 160 3 0)) (kq_p (j := 2) ⟨by decide, by decide⟩ (fun i h1 h2 => absurd h2 (by omega)) (by decide +kernel)) ?_
  show Z G (d + 1) mX6_init 28 [(2, 157)] [] 160 164 (kq zfx M 157 157 158 160 3 0) Q
  refine z_aloadn dX6_init_28 rfl (Or.inl rfl) ?_
  refine z_bipush (k := 6) dX6_init_29 ⟨by decide, ⟨by decide, by decide⟩⟩ ?_
  refine z_newi (len := 6) dX6_init_31 ac_int (by decide +kernel) (fun y => kq_fr (n' := 161) hM (by decide) (by decide) (by decide) (Or.inl (by decide)) _ y (by decide)) (by decide) ?_
  refine k_M (M' := (kq zfx M 157 157 158 161 3 0)) (kq_n (by decide) (fun y => hM _ y (by decide)) (fun y => zfx_arr sh161 (Or.inl rfl))) ?_
  show Z G (d + 1) mX6_init 33 [(2, 157)] [(2, 161), (2, 157)] 161 164 (kq zfx M 157 157 158 161 3 0) Q
  refine z_putfinal (v := 161) (k := 3) dX6_init_33 fX6_21 uX6_21 sh157 (by decide) rfl r6_3 rfl ⟨by decide, by decide⟩ (by decide) (h0 _ _) ?_
  refine k_M (M' := (kq zfx M 157 157 158 161 4 0)) (kq_p (j := 3) ⟨by decide, by decide⟩ (fun i h1 h2 => absurd h2 (by omega)) (by decide +kernel)) ?_
  show Z G (d + 1) mX6_init 36 [(2, 157)] [] 161 164 (kq zfx M 157 157 158 161 4 0) Q
  refine z_aloadn dX6_init_36 rfl (Or.inl rfl) ?_
  refine z_bipush (k := 6) dX6_init_37 ⟨by decide, ⟨by decide, by decide⟩⟩ ?_
  refine z_newi (len := 6) dX6_init_39 ac_int (by decide +kernel) (fun y => kq_fr (n' := 162) hM (by decide) (by decide) (by decide) (Or.inl (by decide)) _ y (by decide)) (by decide) ?_
  refine k_M (M' := (kq zfx M 157 157 158 162 4 0)) (kq_n (by decide) (fun y => hM _ y (by decide)) (fun y => zfx_arr sh162 (Or.inl rfl))) ?_
  show Z G (d + 1) mX6_init 41 [(2, 157)] [(2, 162), (2, 157)] 162 164 (kq zfx M 157 157 158 162 4 0) Q
  refine z_putfinal (v := 162) (k := 4) dX6_init_41 fX6_24 uX6_24 sh157 (by decide) rfl r6_4 rfl ⟨by decide, by decide⟩ (by decide) (h0 _ _) ?_
  refine k_M (M' := (kq zfx M 157 157 158 162 5 0)) (kq_p (j := 4) ⟨by decide, by decide⟩ (fun i h1 h2 => absurd h2 (by omega)) (by decide +kernel)) ?_
  show Z G (d + 1) mX6_init 44 [(2, 157)] [] 162 164 (kq zfx M 157 157 158 162 5 0) Q
  refine z_aloadn dX6_init_44 rfl (Or.inl rfl) ?_
  refine z_bipush (k := 6) dX6_init_45 ⟨by decide, ⟨by decide, by decide⟩⟩ ?_
  refine z_newi (len := 6) dX6_init_47 ac_int (by decide +kernel) (fun y => kq_fr (n' := 163) hM (by decide) (by decide) (by decide) (Or.inl (by decide)) _ y (by decide)) (by decide) ?_
  refine k_M (M' := (kq zfx M 157 157 158 163 5 0)) (kq_n (by decide) (fun y => hM _ y (by decide)) (fun y => zfx_arr sh163 (Or.inl rfl))) ?_
  show Z G (d + 1) mX6_init 49 [(2, 157)] [(2, 163), (2, 157)] 163 164 (kq zfx M 157 157 158 163 5 0) Q
  refine z_putfinal (v := 163) (k := 7) dX6_init_49 fX6_27 uX6_27 sh157 (by decide) rfl r6_7 rfl ⟨by decide, by decide⟩ (by decide) (h0 _ _) ?_
  refine k_M (M' := (kq zfx M 157 157 158 163 8 0)) (kq_p (j := 7) ⟨by decide, by decide⟩ (fun i h1 h2 => by rcases (show i = 5 ∨ i = 6 by omega) with rfl | rfl <;> decide +kernel) (by decide +kernel)) ?_
  show Z G (d + 1) mX6_init 52 [(2, 157)] [] 163 164 (kq zfx M 157 157 158 163 8 0) Q
  refine z_aloadn dX6_init_52 rfl (Or.inl rfl) ?_
  refine z_bipush (k := 6) dX6_init_53 ⟨by decide, ⟨by decide, by decide⟩⟩ ?_
  refine z_newi (len := 6) dX6_init_55 ac_int (by decide +kernel) (fun y => kq_fr (n' := 164) hM (by decide) (by decide) (by decide) (Or.inl (by decide)) _ y (by decide)) (by decide) ?_
  refine k_M (M' := (kq zfx M 157 157 158 164 8 0)) (kq_n (by decide) (fun y => hM _ y (by decide)) (fun y => zfx_arr sh164 (Or.inl rfl))) ?_
  show Z G (d + 1) mX6_init 57 [(2, 157)] [(2, 164), (2, 157)] 164 164 (kq zfx M 157 157 158 164 8 0) Q
  refine z_putfinal (v := 164) (k := 8) dX6_init_57 fX6_30 uX6_30 sh157 (by decide) rfl r6_8 rfl ⟨by decide, by decide⟩ (by decide) (h0 _ _) ?_
  refine k_M (M' := (kq zfx M 157 157 158 164 9 0)) (kq_p (j := 8) ⟨by decide, by decide⟩ (fun i h1 h2 => absurd h2 (by omega)) (by decide +kernel)) ?_
  show Z G (d + 1) mX6_init 60 [(2, 157)] [] 164 164 (kq zfx M 157 157 158 164 9 0) Q
  refine z_return dX6_init_60 rfl rfl ?_
  rw [show kq zfx M 157 157 158 164 9 0 = kq_f zfx M 157 164 from kq_e (by decide) (by decide) (zfx_tl (K := 9) (by decide +kernel)) (Or.inl rfl)]
  exact hq
set_option maxRecDepth 20000 in
set_option maxHeartbeats 4000000 in
theorem k_X2 (h0 : ∀ a i, G.2.2.2.2.2.2 a i = 0) (hM : ∀ a y, (165 : Int) ≤ a → M a y = 0) (hq : Q (9, 0) (kq_f zfx M 165 169)) : Z G (d + 1) mX2_init 0 [(2, 165)] [] 165 169 M Q := by
  refine k_M (M' := kq zfx M 165 165 166 165 0 0) (kq_0 (fun y => hM _ y (by decide)) (fun y => hM _ y (by decide)) (by decide)) ?_
  have hM := fun (a y : Int) (h : (166 : Int) ≤ a) => hM a y (by omega)
  refine z_aloadn dX2_init_0 rfl (Or.inl rfl) ?_
  refine z_objinit dX2_init_1 loX2_3 oi_i (by decide) (Nat.le_of_ble_eq_true rfl) ?_
  refine z_aloadn dX2_init_4 rfl (Or.inl rfl) ?_
  refine z_bipush (k := 6) dX2_init_5 ⟨by decide, ⟨by decide, by decide⟩⟩ ?_
  refine z_newi (len := 6) dX2_init_7 ac_int (by decide +kernel) (fun y => kq_fr (n' := 166) hM (by decide) (by decide) (by decide) (Or.inl (by decide)) _ y (by decide)) (by decide) ?_
  refine k_M (M' := (kq zfx M 165 165 166 166 0 0)) (kq_n (by decide) (fun y => hM _ y (by decide)) (fun y => zfx_arr sh166 (Or.inl rfl))) ?_
  show Z G (d + 1) mX2_init 9 [(2, 165)] [(2, 166), (2, 165)] 166 169 (kq zfx M 165 165 166 166 0 0) Q
  refine z_putfinal (v := 166) (k := 0) dX2_init_9 fX2_9 uX2_9 sh165 (by decide) rfl r2_0 rfl ⟨by decide, by decide⟩ (by decide) (h0 _ _) ?_
  refine k_M (M' := (kq zfx M 165 165 166 166 1 0)) (kq_p (j := 0) ⟨by decide, by decide⟩ (fun i h1 h2 => absurd h2 (by omega)) (by decide +kernel)) ?_
  show Z G (d + 1) mX2_init 12 [(2, 165)] [] 166 169 (kq zfx M 165 165 166 166 1 0) Q
  refine z_aloadn dX2_init_12 rfl (Or.inl rfl) ?_
  refine z_bipush (k := 12) dX2_init_13 ⟨by decide, ⟨by decide, by decide⟩⟩ ?_
  refine z_newi (len := 12) dX2_init_15 ac_int (by decide +kernel) (fun y => kq_fr (n' := 167) hM (by decide) (by decide) (by decide) (Or.inl (by decide)) _ y (by decide)) (by decide) ?_
  refine k_M (M' := (kq zfx M 165 165 166 167 1 0)) (kq_n (by decide) (fun y => hM _ y (by decide)) (fun y => zfx_arr sh167 (Or.inl rfl))) ?_
  show Z G (d + 1) mX2_init 17 [(2, 165)] [(2, 167), (2, 165)] 167 169 (kq zfx M 165 165 166 167 1 0) Q
  refine z_putfinal (v := 167) (k := 1) dX2_init_17 fX2_15 uX2_15 sh165 (by decide) rfl r2_1 rfl ⟨by decide, by decide⟩ (by decide) (h0 _ _) ?_
  refine k_M (M' := (kq zfx M 165 165 166 167 2 0)) (kq_p (j := 1) ⟨by decide, by decide⟩ (fun i h1 h2 => absurd h2 (by omega)) (by decide +kernel)) ?_
  show Z G (d + 1) mX2_init 20 [(2, 165)] [] 167 169 (kq zfx M 165 165 166 167 2 0) Q
  refine z_aloadn dX2_init_20 rfl (Or.inl rfl) ?_
  refine z_bipush (k := 64) dX2_init_21 ⟨by decide, ⟨by decide, by decide⟩⟩ ?_
  refine z_newz (len := 64) dX2_init_23 ac_boolean (by decide +kernel) (fun y => kq_fr (n' := 168) hM (by decide) (by decide) (by decide) (Or.inl (by decide)) _ y (by decide)) (by decide) ?_
  refine k_M (M' := (kq zfx M 165 165 166 168 2 0)) (kq_n (by decide) (fun y => hM _ y (by decide)) (fun y => zfx_arr sh168 (Or.inr (Or.inr rfl)))) ?_
  show Z G (d + 1) mX2_init 25 [(2, 165)] [(2, 168), (2, 165)] 168 169 (kq zfx M 165 165 166 168 2 0) Q
  refine z_putfinal (v := 168) (k := 2) dX2_init_25 fX2_18 uX2_18 sh165 (by decide) rfl r2_2 rfl ⟨by decide, by decide⟩ (by decide) (h0 _ _) ?_
  refine k_M (M' := (kq zfx M 165 165 166 168 3 0)) (kq_p (j := 2) ⟨by decide, by decide⟩ (fun i h1 h2 => absurd h2 (by omega)) (by decide +kernel)) ?_
  show Z G (d + 1) mX2_init 28 [(2, 165)] [] 168 169 (kq zfx M 165 165 166 168 3 0) Q
  refine z_aloadn dX2_init_28 rfl (Or.inl rfl) ?_
  refine z_bipush (k := 6) dX2_init_29 ⟨by decide, ⟨by decide, by decide⟩⟩ ?_
  refine z_newi (len := 6) dX2_init_31 ac_int (by decide +kernel) (fun y => kq_fr (n' := 169) hM (by decide) (by decide) (by decide) (Or.inl (by decide)) _ y (by decide)) (by decide) ?_
  refine k_M (M' := (kq zfx M 165 165 166 169 3 0)) (kq_n (by decide) (fun y => hM _ y (by decide)) (fun y => zfx_arr sh169 (Or.inl rfl))) ?_
  show Z G (d + 1) mX2_init 33 [(2, 165)] [(2, 169), (2, 165)] 169 169 (kq zfx M 165 165 166 169 3 0) Q
  refine z_putfinal (v := 169) (k := 3) dX2_init_33 fX2_22 uX2_22 sh165 (by decide) rfl r2_3 rfl ⟨by decide, by decide⟩ (by decide) (h0 _ _) ?_
  refine k_M (M' := (kq zfx M 165 165 166 169 4 0)) (kq_p (j := 3) ⟨by decide, by decide⟩ (fun i h1 h2 => absurd h2 (by omega)) (by decide +kernel)) ?_
  show Z G (d + 1) mX2_init 36 [(2, 165)] [] 169 169 (kq zfx M 165 165 166 169 4 0) Q
  refine z_return dX2_init_36 rfl rfl ?_
  rw [show kq zfx M 165 165 166 169 4 0 = kq_f zfx M 165 169 from kq_e (by decide) (by decide) (zfx_tl (K := 4) (by decide +kernel)) (Or.inl rfl)]
  exact hq
set_option maxRecDepth 20000 in
set_option maxHeartbeats 4000000 in
theorem k_X9 (h0 : ∀ a i, G.2.2.2.2.2.2 a i = 0) (hM : ∀ a y, (170 : Int) ≤ a → M a y = 0) (hq : Q (9, 0) (kq_f zfx M 170 175)) : Z G (d + 1) mX9_init 0 [(2, 170)] [] 170 175 M Q := by
  refine k_M (M' := kq zfx M 170 170 171 170 0 0) (kq_0 (fun y => hM _ y (by decide)) (fun y => hM _ y (by decide)) (by decide)) ?_
  have hM := fun (a y : Int) (h : (171 : Int) ≤ a) => hM a y (by omega)
  refine z_aloadn dX9_init_0 rfl (Or.inl rfl) ?_
  refine z_objinit dX9_init_1 loX9_3 oi_i (by decide) (Nat.le_of_ble_eq_true rfl) ?_
  refine z_aloadn dX9_init_4 rfl (Or.inl rfl) ?_
  refine z_ldc (k := 50050) (v := 50050) dX9_init_5 ⟨by decide, ⟨by decide, by decide⟩⟩ qX9_9 ?_
  refine z_newi (len := 50050) dX9_init_7 ac_int (by decide +kernel) (fun y => kq_fr (n' := 171) hM (by decide) (by decide) (by decide) (Or.inl (by decide)) _ y (by decide)) (by decide) ?_
  refine k_M (M' := (kq zfx M 170 170 171 171 0 0)) (kq_n (by decide) (fun y => hM _ y (by decide)) (fun y => zfx_arr sh171 (Or.inl rfl))) ?_
  show Z G (d + 1) mX9_init 9 [(2, 170)] [(2, 171), (2, 170)] 171 175 (kq zfx M 170 170 171 171 0 0) Q
  refine z_putfinal (v := 171) (k := 0) dX9_init_9 fX9_10 uX9_10 sh170 (by decide) rfl r9_0 rfl ⟨by decide, by decide⟩ (by decide) (h0 _ _) ?_
  refine k_M (M' := (kq zfx M 170 170 171 171 1 0)) (kq_p (j := 0) ⟨by decide, by decide⟩ (fun i h1 h2 => absurd h2 (by omega)) (by decide +kernel)) ?_
  show Z G (d + 1) mX9_init 12 [(2, 170)] [] 171 175 (kq zfx M 170 170 171 171 1 0) Q
  refine z_aloadn dX9_init_12 rfl (Or.inl rfl) ?_
  refine z_bipush (k := 10) dX9_init_13 ⟨by decide, ⟨by decide, by decide⟩⟩ ?_
  refine z_newi (len := 10) dX9_init_15 ac_int (by decide +kernel) (fun y => kq_fr (n' := 172) hM (by decide) (by decide) (by decide) (Or.inl (by decide)) _ y (by decide)) (by decide) ?_
  refine k_M (M' := (kq zfx M 170 170 171 172 1 0)) (kq_n (by decide) (fun y => hM _ y (by decide)) (fun y => zfx_arr sh172 (Or.inl rfl))) ?_
  show Z G (d + 1) mX9_init 17 [(2, 170)] [(2, 172), (2, 170)] 172 175 (kq zfx M 170 170 171 172 1 0) Q
  refine z_putfinal (v := 172) (k := 1) dX9_init_17 fX9_16 uX9_16 sh170 (by decide) rfl r9_1 rfl ⟨by decide, by decide⟩ (by decide) (h0 _ _) ?_
  refine k_M (M' := (kq zfx M 170 170 171 172 2 0)) (kq_p (j := 1) ⟨by decide, by decide⟩ (fun i h1 h2 => absurd h2 (by omega)) (by decide +kernel)) ?_
  show Z G (d + 1) mX9_init 20 [(2, 170)] [] 172 175 (kq zfx M 170 170 171 172 2 0) Q
  refine z_aloadn dX9_init_20 rfl (Or.inl rfl) ?_
  refine z_iconst (k := 4) dX9_init_21 ⟨by decide, by decide⟩ ?_
  refine z_newi (len := 4) dX9_init_22 ac_int (by decide +kernel) (fun y => kq_fr (n' := 173) hM (by decide) (by decide) (by decide) (Or.inl (by decide)) _ y (by decide)) (by decide) ?_
  refine k_M (M' := (kq zfx M 170 170 171 173 2 0)) (kq_n (by decide) (fun y => hM _ y (by decide)) (fun y => zfx_arr sh173 (Or.inl rfl))) ?_
  show Z G (d + 1) mX9_init 24 [(2, 170)] [(2, 173), (2, 170)] 173 175 (kq zfx M 170 170 171 173 2 0) Q
  refine z_putfinal (v := 173) (k := 2) dX9_init_24 fX9_19 uX9_19 sh170 (by decide) rfl r9_2 rfl ⟨by decide, by decide⟩ (by decide) (h0 _ _) ?_
  refine k_M (M' := (kq zfx M 170 170 171 173 3 0)) (kq_p (j := 2) ⟨by decide, by decide⟩ (fun i h1 h2 => absurd h2 (by omega)) (by decide +kernel)) ?_
  show Z G (d + 1) mX9_init 27 [(2, 170)] [] 173 175 (kq zfx M 170 170 171 173 3 0) Q
  refine z_aloadn dX9_init_27 rfl (Or.inl rfl) ?_
  refine z_sipush (k := 1001) dX9_init_28 ⟨by decide, ⟨by decide, by decide⟩⟩ ?_
  refine z_newi (len := 1001) dX9_init_31 ac_int (by decide +kernel) (fun y => kq_fr (n' := 174) hM (by decide) (by decide) (by decide) (Or.inl (by decide)) _ y (by decide)) (by decide) ?_
  refine k_M (M' := (kq zfx M 170 170 171 174 3 0)) (kq_n (by decide) (fun y => hM _ y (by decide)) (fun y => zfx_arr sh174 (Or.inl rfl))) ?_
  show Z G (d + 1) mX9_init 33 [(2, 170)] [(2, 174), (2, 170)] 174 175 (kq zfx M 170 170 171 174 3 0) Q
  refine z_putfinal (v := 174) (k := 3) dX9_init_33 fX9_22 uX9_22 sh170 (by decide) rfl r9_3 rfl ⟨by decide, by decide⟩ (by decide) (h0 _ _) ?_
  refine k_M (M' := (kq zfx M 170 170 171 174 4 0)) (kq_p (j := 3) ⟨by decide, by decide⟩ (fun i h1 h2 => absurd h2 (by omega)) (by decide +kernel)) ?_
  show Z G (d + 1) mX9_init 36 [(2, 170)] [] 174 175 (kq zfx M 170 170 171 174 4 0) Q
  refine z_aloadn dX9_init_36 rfl (Or.inl rfl) ?_
  refine z_bipush (k := 9) dX9_init_37 ⟨by decide, ⟨by decide, by decide⟩⟩ ?_
  refine z_newi (len := 9) dX9_init_39 ac_int (by decide +kernel) (fun y => kq_fr (n' := 175) hM (by decide) (by decide) (by decide) (Or.inl (by decide)) _ y (by decide)) (by decide) ?_
  refine k_M (M' := (kq zfx M 170 170 171 175 4 0)) (kq_n (by decide) (fun y => hM _ y (by decide)) (fun y => zfx_arr sh175 (Or.inl rfl))) ?_
  show Z G (d + 1) mX9_init 41 [(2, 170)] [(2, 175), (2, 170)] 175 175 (kq zfx M 170 170 171 175 4 0) Q
  refine z_putfinal (v := 175) (k := 4) dX9_init_41 fX9_25 uX9_25 sh170 (by decide) rfl r9_4 rfl ⟨by decide, by decide⟩ (by decide) (h0 _ _) ?_
  refine k_M (M' := (kq zfx M 170 170 171 175 5 0)) (kq_p (j := 4) ⟨by decide, by decide⟩ (fun i h1 h2 => absurd h2 (by omega)) (by decide +kernel)) ?_
  show Z G (d + 1) mX9_init 44 [(2, 170)] [] 175 175 (kq zfx M 170 170 171 175 5 0) Q
  refine z_return dX9_init_44 rfl rfl ?_
  rw [show kq zfx M 170 170 171 175 5 0 = kq_f zfx M 170 175 from kq_e (by decide) (by decide) (zfx_tl (K := 5) (by decide +kernel)) (Or.inl rfl)]
  exact hq
set_option maxRecDepth 20000 in
set_option maxHeartbeats 4000000 in
theorem k_X0 (h0 : ∀ a i, G.2.2.2.2.2.2 a i = 0) (hM : ∀ a y, (176 : Int) ≤ a → M a y = 0) (hq : Q (9, 0) (kq_f zfx M 176 183)) : Z G (d + 1) mX0_init 0 [(2, 176)] [] 176 183 M Q := by
  refine k_M (M' := kq zfx M 176 176 177 176 0 0) (kq_0 (fun y => hM _ y (by decide)) (fun y => hM _ y (by decide)) (by decide)) ?_
  have hM := fun (a y : Int) (h : (177 : Int) ≤ a) => hM a y (by omega)
  refine z_aloadn dX0_init_0 rfl (Or.inl rfl) ?_
  refine z_objinit dX0_init_1 loX0_3 oi_i (by decide) (Nat.le_of_ble_eq_true rfl) ?_
  refine z_aloadn dX0_init_4 rfl (Or.inl rfl) ?_
  refine z_bipush (k := 8) dX0_init_5 ⟨by decide, ⟨by decide, by decide⟩⟩ ?_
  refine z_newi (len := 8) dX0_init_7 ac_int (by decide +kernel) (fun y => kq_fr (n' := 177) hM (by decide) (by decide) (by decide) (Or.inl (by decide)) _ y (by decide)) (by decide) ?_
  refine k_M (M' := (kq zfx M 176 176 177 177 0 0)) (kq_n (by decide) (fun y => hM _ y (by decide)) (fun y => zfx_arr sh177 (Or.inl rfl))) ?_
  show Z G (d + 1) mX0_init 9 [(2, 176)] [(2, 177), (2, 176)] 177 183 (kq zfx M 176 176 177 177 0 0) Q
  refine z_putfinal (v := 177) (k := 0) dX0_init_9 fX0_9 uX0_9 sh176 (by decide) rfl r0_0 rfl ⟨by decide, by decide⟩ (by decide) (h0 _ _) ?_
  refine k_M (M' := (kq zfx M 176 176 177 177 1 0)) (kq_p (j := 0) ⟨by decide, by decide⟩ (fun i h1 h2 => absurd h2 (by omega)) (by decide +kernel)) ?_
  show Z G (d + 1) mX0_init 12 [(2, 176)] [] 177 183 (kq zfx M 176 176 177 177 1 0) Q
  refine z_aloadn dX0_init_12 rfl (Or.inl rfl) ?_
  refine z_bipush (k := 8) dX0_init_13 ⟨by decide, ⟨by decide, by decide⟩⟩ ?_
  refine z_newi (len := 8) dX0_init_15 ac_int (by decide +kernel) (fun y => kq_fr (n' := 178) hM (by decide) (by decide) (by decide) (Or.inl (by decide)) _ y (by decide)) (by decide) ?_
  refine k_M (M' := (kq zfx M 176 176 177 178 1 0)) (kq_n (by decide) (fun y => hM _ y (by decide)) (fun y => zfx_arr sh178 (Or.inl rfl))) ?_
  show Z G (d + 1) mX0_init 17 [(2, 176)] [(2, 178), (2, 176)] 178 183 (kq zfx M 176 176 177 178 1 0) Q
  refine z_putfinal (v := 178) (k := 1) dX0_init_17 fX0_15 uX0_15 sh176 (by decide) rfl r0_1 rfl ⟨by decide, by decide⟩ (by decide) (h0 _ _) ?_
  refine k_M (M' := (kq zfx M 176 176 177 178 2 0)) (kq_p (j := 1) ⟨by decide, by decide⟩ (fun i h1 h2 => absurd h2 (by omega)) (by decide +kernel)) ?_
  show Z G (d + 1) mX0_init 20 [(2, 176)] [] 178 183 (kq zfx M 176 176 177 178 2 0) Q
  refine z_aloadn dX0_init_20 rfl (Or.inl rfl) ?_
  refine z_bipush (k := 8) dX0_init_21 ⟨by decide, ⟨by decide, by decide⟩⟩ ?_
  refine z_newi (len := 8) dX0_init_23 ac_int (by decide +kernel) (fun y => kq_fr (n' := 179) hM (by decide) (by decide) (by decide) (Or.inl (by decide)) _ y (by decide)) (by decide) ?_
  refine k_M (M' := (kq zfx M 176 176 177 179 2 0)) (kq_n (by decide) (fun y => hM _ y (by decide)) (fun y => zfx_arr sh179 (Or.inl rfl))) ?_
  show Z G (d + 1) mX0_init 25 [(2, 176)] [(2, 179), (2, 176)] 179 183 (kq zfx M 176 176 177 179 2 0) Q
  refine z_putfinal (v := 179) (k := 3) dX0_init_25 fX0_18 uX0_18 sh176 (by decide) rfl r0_3 rfl ⟨by decide, by decide⟩ (by decide) (h0 _ _) ?_
  refine k_M (M' := (kq zfx M 176 176 177 179 4 0)) (kq_p (j := 3) ⟨by decide, by decide⟩ (fun i h1 h2 => by rw [show i = 2 by omega]; decide +kernel) (by decide +kernel)) ?_
  show Z G (d + 1) mX0_init 28 [(2, 176)] [] 179 183 (kq zfx M 176 176 177 179 4 0) Q
  refine z_aloadn dX0_init_28 rfl (Or.inl rfl) ?_
  refine z_bipush (k := 12) dX0_init_29 ⟨by decide, ⟨by decide, by decide⟩⟩ ?_
  refine z_newi (len := 12) dX0_init_31 ac_int (by decide +kernel) (fun y => kq_fr (n' := 180) hM (by decide) (by decide) (by decide) (Or.inl (by decide)) _ y (by decide)) (by decide) ?_
  refine k_M (M' := (kq zfx M 176 176 177 180 4 0)) (kq_n (by decide) (fun y => hM _ y (by decide)) (fun y => zfx_arr sh180 (Or.inl rfl))) ?_
  show Z G (d + 1) mX0_init 33 [(2, 176)] [(2, 180), (2, 176)] 180 183 (kq zfx M 176 176 177 180 4 0) Q
  refine z_putfinal (v := 180) (k := 5) dX0_init_33 fX0_21 uX0_21 sh176 (by decide) rfl r0_5 rfl ⟨by decide, by decide⟩ (by decide) (h0 _ _) ?_
  refine k_M (M' := (kq zfx M 176 176 177 180 6 0)) (kq_p (j := 5) ⟨by decide, by decide⟩ (fun i h1 h2 => by rw [show i = 4 by omega]; decide +kernel) (by decide +kernel)) ?_
  show Z G (d + 1) mX0_init 36 [(2, 176)] [] 180 183 (kq zfx M 176 176 177 180 6 0) Q
  refine z_aloadn dX0_init_36 rfl (Or.inl rfl) ?_
  refine z_bipush (k := 12) dX0_init_37 ⟨by decide, ⟨by decide, by decide⟩⟩ ?_
  refine z_newi (len := 12) dX0_init_39 ac_int (by decide +kernel) (fun y => kq_fr (n' := 181) hM (by decide) (by decide) (by decide) (Or.inl (by decide)) _ y (by decide)) (by decide) ?_
  refine k_M (M' := (kq zfx M 176 176 177 181 6 0)) (kq_n (by decide) (fun y => hM _ y (by decide)) (fun y => zfx_arr sh181 (Or.inl rfl))) ?_
  show Z G (d + 1) mX0_init 41 [(2, 176)] [(2, 181), (2, 176)] 181 183 (kq zfx M 176 176 177 181 6 0) Q
  refine z_putfinal (v := 181) (k := 6) dX0_init_41 fX0_24 uX0_24 sh176 (by decide) rfl r0_6 rfl ⟨by decide, by decide⟩ (by decide) (h0 _ _) ?_
  refine k_M (M' := (kq zfx M 176 176 177 181 7 0)) (kq_p (j := 6) ⟨by decide, by decide⟩ (fun i h1 h2 => absurd h2 (by omega)) (by decide +kernel)) ?_
  show Z G (d + 1) mX0_init 44 [(2, 176)] [] 181 183 (kq zfx M 176 176 177 181 7 0) Q
  refine z_aloadn dX0_init_44 rfl (Or.inl rfl) ?_
  refine z_iconst (k := 4) dX0_init_45 ⟨by decide, by decide⟩ ?_
  refine z_newi (len := 4) dX0_init_46 ac_int (by decide +kernel) (fun y => kq_fr (n' := 182) hM (by decide) (by decide) (by decide) (Or.inl (by decide)) _ y (by decide)) (by decide) ?_
  refine k_M (M' := (kq zfx M 176 176 177 182 7 0)) (kq_n (by decide) (fun y => hM _ y (by decide)) (fun y => zfx_arr sh182 (Or.inl rfl))) ?_
  show Z G (d + 1) mX0_init 48 [(2, 176)] [(2, 182), (2, 176)] 182 183 (kq zfx M 176 176 177 182 7 0) Q
  refine z_putfinal (v := 182) (k := 8) dX0_init_48 fX0_27 uX0_27 sh176 (by decide) rfl r0_8 rfl ⟨by decide, by decide⟩ (by decide) (h0 _ _) ?_
  refine k_M (M' := (kq zfx M 176 176 177 182 9 0)) (kq_p (j := 8) ⟨by decide, by decide⟩ (fun i h1 h2 => by rw [show i = 7 by omega]; decide +kernel) (by decide +kernel)) ?_
  show Z G (d + 1) mX0_init 51 [(2, 176)] [] 182 183 (kq zfx M 176 176 177 182 9 0) Q
  refine z_aloadn dX0_init_51 rfl (Or.inl rfl) ?_
  refine z_sipush (k := 10000) dX0_init_52 ⟨by decide, ⟨by decide, by decide⟩⟩ ?_
  refine z_newi (len := 10000) dX0_init_55 ac_int (by decide +kernel) (fun y => kq_fr (n' := 183) hM (by decide) (by decide) (by decide) (Or.inl (by decide)) _ y (by decide)) (by decide) ?_
  refine k_M (M' := (kq zfx M 176 176 177 183 9 0)) (kq_n (by decide) (fun y => hM _ y (by decide)) (fun y => zfx_arr sh183 (Or.inl rfl))) ?_
  show Z G (d + 1) mX0_init 57 [(2, 176)] [(2, 183), (2, 176)] 183 183 (kq zfx M 176 176 177 183 9 0) Q
  refine z_putfinal (v := 183) (k := 9) dX0_init_57 fX0_30 uX0_30 sh176 (by decide) rfl r0_9 rfl ⟨by decide, by decide⟩ (by decide) (h0 _ _) ?_
  refine k_M (M' := (kq zfx M 176 176 177 183 10 0)) (kq_p (j := 9) ⟨by decide, by decide⟩ (fun i h1 h2 => absurd h2 (by omega)) (by decide +kernel)) ?_
  show Z G (d + 1) mX0_init 60 [(2, 176)] [] 183 183 (kq zfx M 176 176 177 183 10 0) Q
  refine z_return dX0_init_60 rfl rfl ?_
  rw [show kq zfx M 176 176 177 183 10 0 = kq_f zfx M 176 183 from kq_e (by decide) (by decide) (zfx_tl (K := 10) (by decide +kernel)) (Or.inl rfl)]
  exact hq
set_option maxRecDepth 20000 in
set_option maxHeartbeats 4000000 in
theorem k_X5 (h0 : ∀ a i, G.2.2.2.2.2.2 a i = 0) (hM : ∀ a y, (184 : Int) ≤ a → M a y = 0) (hq : Q (9, 0) (kq_f zfx M 184 185)) : Z G (d + 1) mX5_init 0 [(2, 184)] [] 184 185 M Q := by
  refine k_M (M' := kq zfx M 184 184 185 184 0 0) (kq_0 (fun y => hM _ y (by decide)) (fun y => hM _ y (by decide)) (by decide)) ?_
  have hM := fun (a y : Int) (h : (185 : Int) ≤ a) => hM a y (by omega)
  refine z_aloadn dX5_init_0 rfl (Or.inl rfl) ?_
  refine z_objinit dX5_init_1 loX5_1 oi_i (by decide) (Nat.le_of_ble_eq_true rfl) ?_
  refine z_aloadn dX5_init_4 rfl (Or.inl rfl) ?_
  refine z_sipush (k := 128) dX5_init_5 ⟨by decide, ⟨by decide, by decide⟩⟩ ?_
  refine z_newi (len := 128) dX5_init_8 ac_int (by decide +kernel) (fun y => kq_fr (n' := 185) hM (by decide) (by decide) (by decide) (Or.inl (by decide)) _ y (by decide)) (by decide) ?_
  refine k_M (M' := (kq zfx M 184 184 185 185 0 0)) (kq_n (by decide) (fun y => hM _ y (by decide)) (fun y => zfx_arr sh185 (Or.inl rfl))) ?_
  show Z G (d + 1) mX5_init 10 [(2, 184)] [(2, 185), (2, 184)] 185 185 (kq zfx M 184 184 185 185 0 0) Q
  refine z_putfinal (v := 185) (k := 0) dX5_init_10 fX5_7 uX5_7 sh184 (by decide) rfl r5_0 rfl ⟨by decide, by decide⟩ (by decide) (h0 _ _) ?_
  refine k_M (M' := (kq zfx M 184 184 185 185 1 0)) (kq_p (j := 0) ⟨by decide, by decide⟩ (fun i h1 h2 => absurd h2 (by omega)) (by decide +kernel)) ?_
  show Z G (d + 1) mX5_init 13 [(2, 184)] [] 185 185 (kq zfx M 184 184 185 185 1 0) Q
  refine z_return dX5_init_13 rfl rfl ?_
  rw [show kq zfx M 184 184 185 185 1 0 = kq_f zfx M 184 185 from kq_e (by decide) (by decide) (zfx_tl (K := 1) (by decide +kernel)) (Or.inl rfl)]
  exact hq
set_option maxRecDepth 20000 in
set_option maxHeartbeats 4000000 in
theorem k_X7 (h0 : ∀ a i, G.2.2.2.2.2.2 a i = 0) {o : Nat} (ho : zSC (o : Int)) (hM : ∀ a y, (o : Int) ≤ a → M a y = 0) (hq : Q (9, 0) (kq_f zfx M (o : Int) ((o + 11 : Nat) : Int))) : Z G (d + 2) mX7_init 0 [(2, (o : Int))] [] o (o + 11) M Q := by
  have hp : 1 ≤ (o : Int) := by have := sc_pos ho; omega
  refine k_M (M' := kq zfx M (o : Int) (o : Int) ((o : Int) + 1) (o : Int) 0 0) (kq_0 (fun y => hM _ y (Int.le_refl _)) (fun y => hM _ y (Int.le_refl _)) (by omega)) ?_
  have hM := fun (a y : Int) (h : (o : Int) + 1 ≤ a) => hM a y (by omega)
  refine z_aloadn dX7_init_0 rfl (Or.inl rfl) ?_
  refine z_objinit dX7_init_1 loX7_3 oi_i (by omega) (Nat.le_of_ble_eq_true rfl) ?_
  refine z_aloadn dX7_init_4 rfl (Or.inl rfl) ?_
  refine z_bipush (k := 24) dX7_init_5 ⟨by decide, ⟨by decide, by decide⟩⟩ ?_
  refine z_newi (len := 24) dX7_init_7 ac_int (by have q := sc_1 ho; rw [show ((o : Int) + 1).toNat = o + 1 by omega] at q; exact q) (fun y => kq_fr (n' := ((o + 1 : Nat) : Int)) hM (by omega) (by omega) (by omega) (Or.inl (by omega)) _ y (Int.le_refl _)) (by omega) ?_
  refine k_M (M' := (kq zfx M (o : Int) (o : Int) ((o : Int) + 1) ((o + 1 : Nat) : Int) 0 0)) (kq_n (by omega) (fun y => hM _ y (by omega)) (fun y => zfx_arr (show zsh ((o + 1 : Nat) : Int).toNat = (100, 24) by have q := sc_1 ho; rw [show (o : Int) + 1 = ((o + 1 : Nat) : Int) by omega] at q; exact q) (Or.inl rfl))) ?_
  show Z G (d + 2) mX7_init 9 [(2, (o : Int))] [(2, ((o + 1 : Nat) : Int)), (2, (o : Int))] (o + 1) (o + 11) (kq zfx M (o : Int) (o : Int) ((o : Int) + 1) ((o + 1 : Nat) : Int) 0 0) Q
  refine z_putfinal (v := ((o + 1 : Nat) : Int)) (k := 0) dX7_init_9 fX7_9 uX7_9 (sc_0 ho) (by decide) rfl r7_0 rfl ⟨by omega, by omega⟩ (by omega) (h0 _ _) ?_
  refine k_M (M' := (kq zfx M (o : Int) (o : Int) ((o : Int) + 1) ((o + 1 : Nat) : Int) 1 0)) (kq_p (j := 0) ⟨by decide, by decide⟩ (fun i h1 h2 => absurd h2 (by omega)) (by have q : zfx (o : Int) 0 = (o : Int) + 1 := sc_x0 ho; omega)) ?_
  show Z G (d + 2) mX7_init 12 [(2, (o : Int))] [] (o + 1) (o + 11) (kq zfx M (o : Int) (o : Int) ((o : Int) + 1) ((o + 1 : Nat) : Int) 1 0) Q
  refine z_aloadn dX7_init_12 rfl (Or.inl rfl) ?_
  refine z_sipush (k := 144) dX7_init_13 ⟨by decide, ⟨by decide, by decide⟩⟩ ?_
  refine z_newi (len := 144) dX7_init_16 ac_int (by have q := sc_2 ho; rw [show ((o : Int) + 2).toNat = o + 2 by omega] at q; exact q) (fun y => kq_fr (n' := ((o + 2 : Nat) : Int)) hM (by omega) (by omega) (by omega) (Or.inl (by omega)) _ y (Int.le_refl _)) (by omega) ?_
  refine k_M (M' := (kq zfx M (o : Int) (o : Int) ((o : Int) + 1) ((o + 2 : Nat) : Int) 1 0)) (kq_n (by omega) (fun y => hM _ y (by omega)) (fun y => zfx_arr (show zsh ((o + 2 : Nat) : Int).toNat = (100, 144) by have q := sc_2 ho; rw [show (o : Int) + 2 = ((o + 2 : Nat) : Int) by omega] at q; exact q) (Or.inl rfl))) ?_
  show Z G (d + 2) mX7_init 18 [(2, (o : Int))] [(2, ((o + 2 : Nat) : Int)), (2, (o : Int))] (o + 2) (o + 11) (kq zfx M (o : Int) (o : Int) ((o : Int) + 1) ((o + 2 : Nat) : Int) 1 0) Q
  refine z_putfinal (v := ((o + 2 : Nat) : Int)) (k := 1) dX7_init_18 fX7_15 uX7_15 (sc_0 ho) (by decide) rfl r7_1 rfl ⟨by omega, by omega⟩ (by omega) (h0 _ _) ?_
  refine k_M (M' := (kq zfx M (o : Int) (o : Int) ((o : Int) + 1) ((o + 2 : Nat) : Int) 2 0)) (kq_p (j := 1) ⟨by decide, by decide⟩ (fun i h1 h2 => absurd h2 (by omega)) (by have q : zfx (o : Int) 1 = (o : Int) + 2 := sc_x1 ho; omega)) ?_
  show Z G (d + 2) mX7_init 21 [(2, (o : Int))] [] (o + 2) (o + 11) (kq zfx M (o : Int) (o : Int) ((o : Int) + 1) ((o + 2 : Nat) : Int) 2 0) Q
  refine z_aloadn dX7_init_21 rfl (Or.inl rfl) ?_
  refine z_new dX7_init_22 nX7_18 (by have q := nd_0 (sc_nd ho); rw [show ((o : Int) + 3).toNat = o + 3 by omega] at q; exact q) (by decide) (fun y => kq_fr (n' := ((o + 3 : Nat) : Int)) hM (by omega) (by omega) (by omega) (Or.inl (by omega)) _ y (Int.le_refl _)) (by omega) ?_
  show Z G (d + 2) mX7_init 25 [(2, (o : Int))] [(2, ((o + 3 : Nat) : Int)), (2, (o : Int))] (o + 3) (o + 11) (kq zfx M (o : Int) (o : Int) ((o : Int) + 1) ((o + 2 : Nat) : Int) 2 0) Q
  refine z_dup dX7_init_25 (show (2 : Nat) ≠ 1 by decide) ?_
  refine k_ci (mt2 := mX1_init) (b := ((o + 3 : Nat) : Int)) (as := []) (st := [(2, ((o + 3 : Nat) : Int)), (2, (o : Int))]) (n2 := (o + 11)) (en := [(2, ((o + 3 : Nat) : Int))]) dX7_init_26 lX7_20 kX1_init iX1_init rfl rfl rfl (by omega) (Nat.le_of_ble_eq_true rfl) (Nat.le_of_ble_eq_true rfl) ⟨by omega, by omega⟩ rfl (k_X1 (o := (o + 3)) h0 (by have q := sc_nd ho; rw [show (o : Int) + 3 = ((o + 3 : Nat) : Int) by omega] at q; exact q) (fun a y h => kq_fr (n' := ((o + 3 : Nat) : Int)) hM (by omega) (by omega) (by omega) (Or.inl (by omega)) a y h) ?_)
  refine k_M (M' := (kq zfx M (o : Int) (o : Int) ((o : Int) + 1) ((o + 11 : Nat) : Int) 2 0)) (kq_o (by omega) (by omega) (Or.inl (by omega)) (by omega) (by omega)) ?_
  show Z G (d + 2) mX7_init 29 [(2, (o : Int))] [(2, ((o + 3 : Nat) : Int)), (2, (o : Int))] (o + 11) (o + 11) (kq zfx M (o : Int) (o : Int) ((o : Int) + 1) ((o + 11 : Nat) : Int) 2 0) Q
  refine z_putfinal (v := ((o + 3 : Nat) : Int)) (k := 4) dX7_init_29 fX7_21 uX7_21 (sc_0 ho) (by decide) rfl r7_4 rfl ⟨by omega, by omega⟩ (by omega) (h0 _ _) ?_
  refine k_M (M' := (kq zfx M (o : Int) (o : Int) ((o : Int) + 1) ((o + 11 : Nat) : Int) 5 0)) (kq_p (j := 4) ⟨by decide, by decide⟩ (fun i h1 h2 => by rcases (show i = 2 ∨ i = 3 by omega) with rfl | rfl; exact (sc_z2 ho).1; exact (sc_z2 ho).2) (by have q : zfx (o : Int) 4 = (o : Int) + 3 := sc_x4 ho; omega)) ?_
  show Z G (d + 2) mX7_init 32 [(2, (o : Int))] [] (o + 11) (o + 11) (kq zfx M (o : Int) (o : Int) ((o : Int) + 1) ((o + 11 : Nat) : Int) 5 0) Q
  refine z_return dX7_init_32 rfl rfl ?_
  rw [kq_e rfl (by omega) (sc_tl ho) (Or.inl rfl)]
  exact hq
end KI
