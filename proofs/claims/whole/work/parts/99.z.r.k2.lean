theorem uX10_9 : ∃ (C : String) (T : u_T) (N : Nat), vwCl[10]? = some (C, T, N) ∧ Cond.fieldLink RX10 9 (T 0).1 (T 0).2.1 (T 0).2.2.1 ∈ zTs := ⟨RX10, TX10, 11, rfl, zT_1 (i := 57) (by decide +kernel) rfl⟩
theorem uX10_15 : ∃ (C : String) (T : u_T) (N : Nat), vwCl[10]? = some (C, T, N) ∧ Cond.fieldLink RX10 15 (T 1).1 (T 1).2.1 (T 1).2.2.1 ∈ zTs := ⟨RX10, TX10, 11, rfl, zT_1 (i := 60) (by decide +kernel) rfl⟩
theorem uX10_18 : ∃ (C : String) (T : u_T) (N : Nat), vwCl[10]? = some (C, T, N) ∧ Cond.fieldLink RX10 18 (T 2).1 (T 2).2.1 (T 2).2.2.1 ∈ zTs := ⟨RX10, TX10, 11, rfl, zT_1 (i := 62) (by decide +kernel) rfl⟩
theorem uX10_21 : ∃ (C : String) (T : u_T) (N : Nat), vwCl[10]? = some (C, T, N) ∧ Cond.fieldLink RX10 21 (T 3).1 (T 3).2.1 (T 3).2.2.1 ∈ zTs := ⟨RX10, TX10, 11, rfl, zT_1 (i := 63) (by decide +kernel) rfl⟩
theorem uX10_24 : ∃ (C : String) (T : u_T) (N : Nat), vwCl[10]? = some (C, T, N) ∧ Cond.fieldLink RX10 24 (T 5).1 (T 5).2.1 (T 5).2.2.1 ∈ zTs := ⟨RX10, TX10, 11, rfl, zT_1 (i := 66) (by decide +kernel) rfl⟩
theorem uX10_27 : ∃ (C : String) (T : u_T) (N : Nat), vwCl[10]? = some (C, T, N) ∧ Cond.fieldLink RX10 27 (T 6).1 (T 6).2.1 (T 6).2.2.1 ∈ zTs := ⟨RX10, TX10, 11, rfl, zT_1 (i := 67) (by decide +kernel) rfl⟩
theorem uX10_30 : ∃ (C : String) (T : u_T) (N : Nat), vwCl[10]? = some (C, T, N) ∧ Cond.fieldLink RX10 30 (T 7).1 (T 7).2.1 (T 7).2.2.1 ∈ zTs := ⟨RX10, TX10, 11, rfl, zT_1 (i := 68) (by decide +kernel) rfl⟩
theorem uX10_33 : ∃ (C : String) (T : u_T) (N : Nat), vwCl[10]? = some (C, T, N) ∧ Cond.fieldLink RX10 33 (T 8).1 (T 8).2.1 (T 8).2.2.1 ∈ zTs := ⟨RX10, TX10, 11, rfl, zT_1 (i := 69) (by decide +kernel) rfl⟩
theorem uX10_36 : ∃ (C : String) (T : u_T) (N : Nat), vwCl[10]? = some (C, T, N) ∧ Cond.fieldLink RX10 36 (T 9).1 (T 9).2.1 (T 9).2.2.1 ∈ zTs := ⟨RX10, TX10, 11, rfl, zT_1 (i := 70) (by decide +kernel) rfl⟩
theorem uX3_11 : ∃ (C : String) (T : u_T) (N : Nat), vwCl[3]? = some (C, T, N) ∧ Cond.fieldLink RX3 11 (T 0).1 (T 0).2.1 (T 0).2.2.1 ∈ zTs := ⟨RX3, TX3, 16, rfl, zT_1 (i := 226) (by decide +kernel) rfl⟩
theorem uX3_17 : ∃ (C : String) (T : u_T) (N : Nat), vwCl[3]? = some (C, T, N) ∧ Cond.fieldLink RX3 17 (T 1).1 (T 1).2.1 (T 1).2.2.1 ∈ zTs := ⟨RX3, TX3, 16, rfl, zT_1 (i := 227) (by decide +kernel) rfl⟩
theorem uX3_21 : ∃ (C : String) (T : u_T) (N : Nat), vwCl[3]? = some (C, T, N) ∧ Cond.fieldLink RX3 21 (T 2).1 (T 2).2.1 (T 2).2.2.1 ∈ zTs := ⟨RX3, TX3, 16, rfl, zT_1 (i := 228) (by decide +kernel) rfl⟩
theorem uX3_24 : ∃ (C : String) (T : u_T) (N : Nat), vwCl[3]? = some (C, T, N) ∧ Cond.fieldLink RX3 24 (T 3).1 (T 3).2.1 (T 3).2.2.1 ∈ zTs := ⟨RX3, TX3, 16, rfl, zT_1 (i := 229) (by decide +kernel) rfl⟩
theorem uX3_27 : ∃ (C : String) (T : u_T) (N : Nat), vwCl[3]? = some (C, T, N) ∧ Cond.fieldLink RX3 27 (T 4).1 (T 4).2.1 (T 4).2.2.1 ∈ zTs := ⟨RX3, TX3, 16, rfl, zT_1 (i := 232) (by decide +kernel) rfl⟩
theorem uX3_30 : ∃ (C : String) (T : u_T) (N : Nat), vwCl[3]? = some (C, T, N) ∧ Cond.fieldLink RX3 30 (T 5).1 (T 5).2.1 (T 5).2.2.1 ∈ zTs := ⟨RX3, TX3, 16, rfl, zT_1 (i := 235) (by decide +kernel) rfl⟩
theorem uX3_33 : ∃ (C : String) (T : u_T) (N : Nat), vwCl[3]? = some (C, T, N) ∧ Cond.fieldLink RX3 33 (T 6).1 (T 6).2.1 (T 6).2.2.1 ∈ zTs := ⟨RX3, TX3, 16, rfl, zT_1 (i := 239) (by decide +kernel) rfl⟩
theorem uX3_36 : ∃ (C : String) (T : u_T) (N : Nat), vwCl[3]? = some (C, T, N) ∧ Cond.fieldLink RX3 36 (T 7).1 (T 7).2.1 (T 7).2.2.1 ∈ zTs := ⟨RX3, TX3, 16, rfl, zT_2 (i := 2) (by decide +kernel) rfl⟩
theorem uX3_39 : ∃ (C : String) (T : u_T) (N : Nat), vwCl[3]? = some (C, T, N) ∧ Cond.fieldLink RX3 39 (T 10).1 (T 10).2.1 (T 10).2.2.1 ∈ zTs := ⟨RX3, TX3, 16, rfl, zT_2 (i := 12) (by decide +kernel) rfl⟩
theorem uX3_42 : ∃ (C : String) (T : u_T) (N : Nat), vwCl[3]? = some (C, T, N) ∧ Cond.fieldLink RX3 42 (T 11).1 (T 11).2.1 (T 11).2.2.1 ∈ zTs := ⟨RX3, TX3, 16, rfl, zT_2 (i := 13) (by decide +kernel) rfl⟩
theorem uX3_45 : ∃ (C : String) (T : u_T) (N : Nat), vwCl[3]? = some (C, T, N) ∧ Cond.fieldLink RX3 45 (T 12).1 (T 12).2.1 (T 12).2.2.1 ∈ zTs := ⟨RX3, TX3, 16, rfl, zT_2 (i := 14) (by decide +kernel) rfl⟩
theorem uX3_49 : ∃ (C : String) (T : u_T) (N : Nat), vwCl[3]? = some (C, T, N) ∧ Cond.fieldLink RX3 49 (T 14).1 (T 14).2.1 (T 14).2.2.1 ∈ zTs := ⟨RX3, TX3, 16, rfl, zT_2 (i := 16) (by decide +kernel) rfl⟩
theorem uX3_53 : ∃ (C : String) (T : u_T) (N : Nat), vwCl[3]? = some (C, T, N) ∧ Cond.fieldLink RX3 53 (T 15).1 (T 15).2.1 (T 15).2.2.1 ∈ zTs := ⟨RX3, TX3, 16, rfl, zT_2 (i := 17) (by decide +kernel) rfl⟩
section KJ
variable {G : zG} {d : Nat} {mt : zMt} {pc : Nat} {ls st : List zV} {n n1 : Nat} {M : zM} {Q : zV → zM → Prop}
theorem k_getr {a v : Int} {idx ci k len : Nat} (hd : decode mt.2.1 pc = .ok (.getfield idx, 3)) (hg : zgf mt.1.cls idx ci k) (hs : zsh a.toNat = (ci, len)) (hc : ci < 100 ∧ k < len) (ht : zft ((zfd ci).getD k 0) = 2) (ha : 1 ≤ a ∧ a ≤ n) (hv : M a k = v) (h : Z G d mt (pc + 3) ls ((2, v) :: st) n n1 M Q) : Z G d mt pc ls ((2, a) :: st) n n1 M Q :=
  z_getfield hd hg hs hc ht ha (by rw [hv]; exact h)
end KJ
section KL
variable {G : zG} {d : Nat} {M : zM} {Q : zV → zM → Prop}
set_option maxRecDepth 20000 in
set_option maxHeartbeats 4000000 in
theorem k_X3L (h0 : ∀ a i, G.2.2.2.2.2.2 a i = 0) (hM : ∀ a y, (20 : Int) ≤ a → M a y = 0) : ∀ (j c : Nat), c + j = 12 → Q (9, 0) (kq zfx M 19 28 20 156 16 12) → Z G (d + 2) mX3_init 118 [(2, 19), (0, (c : Int))] [] (48 + 9 * c) 156 (kq zfx M 19 28 20 ((48 + 9 * c : Nat) : Int) 16 (c : Int)) Q
  | 0, c, hc, hq => by
    have e : c = 12 := by omega
    subst e
    refine z_iloadn dX3_init_118 rfl ?_
    refine z_bipush (k := 12) dX3_init_119 ⟨by decide, ⟨by decide, by decide⟩⟩ ?_
    refine z_icmpge (tgt := 143) dX3_init_121 rfl (fun _ => ?_) (fun q => absurd q (by decide))
    exact z_return dX3_init_143 rfl rfl hq
  | j + 1, c, hc, hq => by
    have hi : 0 ≤ (c : Int) ∧ (c : Int) < 12 := by omega
    have at1 := nd_at hi
    have hnd : zND ((49 + 9 * c : Nat) : Int) := by have q := at1.2.2; rw [show (49 : Int) + 9 * (c : Int) = ((49 + 9 * c : Nat) : Int) by omega] at q; exact q
    have hsh : zsh (48 + 9 * c + 1) = (1, 9) := by have q := nd_0 hnd; rw [show ((49 + 9 * c : Nat) : Int).toNat = 48 + 9 * c + 1 by omega] at q; exact q
    have hne : ((48 + 9 * c + 1 : Nat) : Int) = ((49 + 9 * c : Nat) : Int) := by omega
    refine z_iloadn dX3_init_118 rfl ?_
    refine z_bipush (k := 12) dX3_init_119 ⟨by decide, ⟨by decide, by decide⟩⟩ ?_
    refine z_icmpge (tgt := 143) dX3_init_121 rfl (fun q => absurd q (by omega)) (fun _ => ?_)
    refine z_aloadn dX3_init_124 rfl (Or.inl rfl) ?_
    refine k_getr (k := 10) (v := 28) dX3_init_125 fX3_39 sh19 (by decide) rfl ⟨by decide, by omega⟩ ((kq_at (j := 10) (by decide)).trans (by decide +kernel)) ?_
    refine z_iloadn dX3_init_128 rfl ?_
    refine z_new dX3_init_129 nX3_9 hsh (by decide) (fun y => kq_fr (n' := ((48 + 9 * c + 1 : Nat) : Int)) hM (by omega) (by omega) (by omega) (Or.inl (by omega)) _ y (Int.le_refl _)) (by omega) ?_
    refine z_dup dX3_init_132 (show (2 : Nat) ≠ 1 by decide) ?_
    rw [hne]
    have hnn : 48 + 9 * c + 1 = 49 + 9 * c := by omega
    show Z G (d + 2) mX3_init 133 [(2, 19), (0, (c : Int))] ((2, ((49 + 9 * c : Nat) : Int)) :: [(2, ((49 + 9 * c : Nat) : Int)), (0, (c : Int)), (2, 28)]) (48 + 9 * c + 1) 156 (kq zfx M 19 28 20 ((48 + 9 * c : Nat) : Int) 16 (c : Int)) Q
    rw [hnn]
    refine k_ci (mt2 := mX1_init) (b := ((49 + 9 * c : Nat) : Int)) (as := []) (st := [(2, ((49 + 9 * c : Nat) : Int)), (0, (c : Int)), (2, 28)]) (n2 := 49 + 9 * c + 8) (en := [(2, ((49 + 9 * c : Nat) : Int))]) dX3_init_133 lX3_48 kX1_init iX1_init rfl rfl rfl (by omega) (Nat.le_of_ble_eq_true rfl) (Nat.le_of_ble_eq_true rfl) ⟨by omega, by omega⟩ rfl (k_X1 (o := 49 + 9 * c) h0 hnd (fun a y h => kq_fr (n' := ((49 + 9 * c : Nat) : Int)) hM (by omega) (by omega) (by omega) (Or.inl (by omega)) a y h) ?_)
    refine k_M (M' := kq zfx M 19 28 20 ((49 + 9 * c + 8 : Nat) : Int) 16 (c : Int)) (kq_o (by omega) (by omega) (Or.inl (by omega)) (by omega) (by omega)) ?_
    show Z G (d + 2) mX3_init 136 [(2, 19), (0, (c : Int))] [(2, ((49 + 9 * c : Nat) : Int)), (0, (c : Int)), (2, 28)] (49 + 9 * c + 8) 156 (kq zfx M 19 28 20 ((49 + 9 * c + 8 : Nat) : Int) 16 (c : Int)) Q
    refine z_aastoren (v := ((49 + 9 * c : Nat) : Int)) dX3_init_136 sh28 ⟨by decide, by omega⟩ ⟨hi.1, hi.2⟩ ⟨by omega, by omega⟩ (nd_0 hnd) (h0 _ _) ?_
    refine k_M (M' := kq zfx M 19 28 20 ((49 + 9 * c + 8 : Nat) : Int) 16 ((c : Int) + 1)) (kq_pr (by decide) hi.1 (by rw [at1.1]; omega)) ?_
    refine y_iinc (ls' := [(2, 19), (0, ((c + 1 : Nat) : Int))]) dX3_init_137 rfl rfl ⟨by omega, by omega⟩ rfl ?_
    refine z_goto (tgt := 118) dX3_init_140 rfl ?_
    have en : 49 + 9 * c + 8 = 48 + 9 * (c + 1) := by omega
    rw [en]
    exact k_X3L h0 hM j (c + 1) (by omega) hq
set_option maxRecDepth 20000 in
set_option maxHeartbeats 4000000 in
theorem k_X3 (h0 : ∀ a i, G.2.2.2.2.2.2 a i = 0) (hM : ∀ a y, (19 : Int) ≤ a → M a y = 0) (hq : Q (9, 0) (kq_f zfx M 19 156)) : Z G (d + 2) mX3_init 0 [(2, 19), (9, 0)] [] 19 156 M Q := by
  refine k_M (M' := kq zfx M 19 28 20 19 0 0) (kq_0 (fun y => hM _ y (by decide)) (fun y => hM _ y (by decide)) (by decide)) ?_
  have hM := fun (a y : Int) (h : (20 : Int) ≤ a) => hM a y (by omega)
  refine z_aloadn dX3_init_0 rfl (Or.inl rfl) ?_
  refine z_objinit dX3_init_1 loX3_3 oi_i (by decide) (Nat.le_of_ble_eq_true rfl) ?_
  refine z_aloadn dX3_init_4 rfl (Or.inl rfl) ?_
  refine z_bipush (k := 12) dX3_init_5 ⟨by decide, ⟨by decide, by decide⟩⟩ ?_
  refine z_anewn (len := 12) dX3_init_7 clX3_9 (by decide +kernel) (fun y => kq_fr (n' := 20) hM (by decide) (by decide) (by decide) (Or.inr rfl) _ y (by decide)) (by decide) ?_
  refine k_M (M' := (kq zfx M 19 28 20 20 0 0)) (kq_n (by decide) (fun y => hM _ y (by decide)) (fun y => zfx_20 y)) ?_
  show Z G (d + 2) mX3_init 10 [(2, 19), (9, 0)] [(2, 20), (2, 19)] 20 156 (kq zfx M 19 28 20 20 0 0) Q
  refine z_putfinal (v := 20) (k := 0) dX3_init_10 fX3_11 uX3_11 sh19 (by decide) rfl r3_0 rfl ⟨by decide, by decide⟩ (by decide) (h0 _ _) ?_
  refine k_M (M' := (kq zfx M 19 28 20 20 1 0)) (kq_p (j := 0) ⟨by decide, by decide⟩ (fun i h1 h2 => absurd h2 (by omega)) (by decide +kernel)) ?_
  show Z G (d + 2) mX3_init 13 [(2, 19), (9, 0)] [] 20 156 (kq zfx M 19 28 20 20 1 0) Q
  refine z_aloadn dX3_init_13 rfl (Or.inl rfl) ?_
  refine z_bipush (k := 12) dX3_init_14 ⟨by decide, ⟨by decide, by decide⟩⟩ ?_
  refine z_newi (len := 12) dX3_init_16 ac_int (by decide +kernel) (fun y => kq_fr (n' := 21) hM (by decide) (by decide) (by decide) (Or.inr rfl) _ y (by decide)) (by decide) ?_
  refine k_M (M' := (kq zfx M 19 28 20 21 1 0)) (kq_n (by decide) (fun y => hM _ y (by decide)) (fun y => zfx_arr sh21 (Or.inl rfl))) ?_
  show Z G (d + 2) mX3_init 18 [(2, 19), (9, 0)] [(2, 21), (2, 19)] 21 156 (kq zfx M 19 28 20 21 1 0) Q
  refine z_putfinal (v := 21) (k := 1) dX3_init_18 fX3_17 uX3_17 sh19 (by decide) rfl r3_1 rfl ⟨by decide, by decide⟩ (by decide) (h0 _ _) ?_
  refine k_M (M' := (kq zfx M 19 28 20 21 2 0)) (kq_p (j := 1) ⟨by decide, by decide⟩ (fun i h1 h2 => absurd h2 (by omega)) (by decide +kernel)) ?_
  show Z G (d + 2) mX3_init 21 [(2, 19), (9, 0)] [] 21 156 (kq zfx M 19 28 20 21 2 0) Q
  refine z_aloadn dX3_init_21 rfl (Or.inl rfl) ?_
  refine z_bipush (k := 12) dX3_init_22 ⟨by decide, ⟨by decide, by decide⟩⟩ ?_
  refine z_newi (len := 12) dX3_init_24 ac_int (by decide +kernel) (fun y => kq_fr (n' := 22) hM (by decide) (by decide) (by decide) (Or.inr rfl) _ y (by decide)) (by decide) ?_
  refine k_M (M' := (kq zfx M 19 28 20 22 2 0)) (kq_n (by decide) (fun y => hM _ y (by decide)) (fun y => zfx_arr sh22 (Or.inl rfl))) ?_
  show Z G (d + 2) mX3_init 26 [(2, 19), (9, 0)] [(2, 22), (2, 19)] 22 156 (kq zfx M 19 28 20 22 2 0) Q
  refine z_putfinal (v := 22) (k := 2) dX3_init_26 fX3_21 uX3_21 sh19 (by decide) rfl r3_2 rfl ⟨by decide, by decide⟩ (by decide) (h0 _ _) ?_
  refine k_M (M' := (kq zfx M 19 28 20 22 3 0)) (kq_p (j := 2) ⟨by decide, by decide⟩ (fun i h1 h2 => absurd h2 (by omega)) (by decide +kernel)) ?_
  show Z G (d + 2) mX3_init 29 [(2, 19), (9, 0)] [] 22 156 (kq zfx M 19 28 20 22 3 0) Q
  refine z_aloadn dX3_init_29 rfl (Or.inl rfl) ?_
  refine z_bipush (k := 12) dX3_init_30 ⟨by decide, ⟨by decide, by decide⟩⟩ ?_
  refine z_newi (len := 12) dX3_init_32 ac_int (by decide +kernel) (fun y => kq_fr (n' := 23) hM (by decide) (by decide) (by decide) (Or.inr rfl) _ y (by decide)) (by decide) ?_
  refine k_M (M' := (kq zfx M 19 28 20 23 3 0)) (kq_n (by decide) (fun y => hM _ y (by decide)) (fun y => zfx_arr sh23 (Or.inl rfl))) ?_
  show Z G (d + 2) mX3_init 34 [(2, 19), (9, 0)] [(2, 23), (2, 19)] 23 156 (kq zfx M 19 28 20 23 3 0) Q
  refine z_putfinal (v := 23) (k := 3) dX3_init_34 fX3_24 uX3_24 sh19 (by decide) rfl r3_3 rfl ⟨by decide, by decide⟩ (by decide) (h0 _ _) ?_
  refine k_M (M' := (kq zfx M 19 28 20 23 4 0)) (kq_p (j := 3) ⟨by decide, by decide⟩ (fun i h1 h2 => absurd h2 (by omega)) (by decide +kernel)) ?_
  show Z G (d + 2) mX3_init 37 [(2, 19), (9, 0)] [] 23 156 (kq zfx M 19 28 20 23 4 0) Q
  refine z_aloadn dX3_init_37 rfl (Or.inl rfl) ?_
  refine z_bipush (k := 12) dX3_init_38 ⟨by decide, ⟨by decide, by decide⟩⟩ ?_
  refine z_newi (len := 12) dX3_init_40 ac_int (by decide +kernel) (fun y => kq_fr (n' := 24) hM (by decide) (by decide) (by decide) (Or.inr rfl) _ y (by decide)) (by decide) ?_
  refine k_M (M' := (kq zfx M 19 28 20 24 4 0)) (kq_n (by decide) (fun y => hM _ y (by decide)) (fun y => zfx_arr sh24 (Or.inl rfl))) ?_
  show Z G (d + 2) mX3_init 42 [(2, 19), (9, 0)] [(2, 24), (2, 19)] 24 156 (kq zfx M 19 28 20 24 4 0) Q
  refine z_putfinal (v := 24) (k := 4) dX3_init_42 fX3_27 uX3_27 sh19 (by decide) rfl r3_4 rfl ⟨by decide, by decide⟩ (by decide) (h0 _ _) ?_
  refine k_M (M' := (kq zfx M 19 28 20 24 5 0)) (kq_p (j := 4) ⟨by decide, by decide⟩ (fun i h1 h2 => absurd h2 (by omega)) (by decide +kernel)) ?_
  show Z G (d + 2) mX3_init 45 [(2, 19), (9, 0)] [] 24 156 (kq zfx M 19 28 20 24 5 0) Q
  refine z_aloadn dX3_init_45 rfl (Or.inl rfl) ?_
  refine z_bipush (k := 12) dX3_init_46 ⟨by decide, ⟨by decide, by decide⟩⟩ ?_
  refine z_newi (len := 12) dX3_init_48 ac_int (by decide +kernel) (fun y => kq_fr (n' := 25) hM (by decide) (by decide) (by decide) (Or.inr rfl) _ y (by decide)) (by decide) ?_
  refine k_M (M' := (kq zfx M 19 28 20 25 5 0)) (kq_n (by decide) (fun y => hM _ y (by decide)) (fun y => zfx_arr sh25 (Or.inl rfl))) ?_
  show Z G (d + 2) mX3_init 50 [(2, 19), (9, 0)] [(2, 25), (2, 19)] 25 156 (kq zfx M 19 28 20 25 5 0) Q
  refine z_putfinal (v := 25) (k := 5) dX3_init_50 fX3_30 uX3_30 sh19 (by decide) rfl r3_5 rfl ⟨by decide, by decide⟩ (by decide) (h0 _ _) ?_
  refine k_M (M' := (kq zfx M 19 28 20 25 6 0)) (kq_p (j := 5) ⟨by decide, by decide⟩ (fun i h1 h2 => absurd h2 (by omega)) (by decide +kernel)) ?_
  show Z G (d + 2) mX3_init 53 [(2, 19), (9, 0)] [] 25 156 (kq zfx M 19 28 20 25 6 0) Q
  refine z_aloadn dX3_init_53 rfl (Or.inl rfl) ?_
  refine z_bipush (k := 12) dX3_init_54 ⟨by decide, ⟨by decide, by decide⟩⟩ ?_
  refine z_newi (len := 12) dX3_init_56 ac_int (by decide +kernel) (fun y => kq_fr (n' := 26) hM (by decide) (by decide) (by decide) (Or.inr rfl) _ y (by decide)) (by decide) ?_
  refine k_M (M' := (kq zfx M 19 28 20 26 6 0)) (kq_n (by decide) (fun y => hM _ y (by decide)) (fun y => zfx_arr sh26 (Or.inl rfl))) ?_
  show Z G (d + 2) mX3_init 58 [(2, 19), (9, 0)] [(2, 26), (2, 19)] 26 156 (kq zfx M 19 28 20 26 6 0) Q
  refine z_putfinal (v := 26) (k := 6) dX3_init_58 fX3_33 uX3_33 sh19 (by decide) rfl r3_6 rfl ⟨by decide, by decide⟩ (by decide) (h0 _ _) ?_
  refine k_M (M' := (kq zfx M 19 28 20 26 7 0)) (kq_p (j := 6) ⟨by decide, by decide⟩ (fun i h1 h2 => absurd h2 (by omega)) (by decide +kernel)) ?_
  show Z G (d + 2) mX3_init 61 [(2, 19), (9, 0)] [] 26 156 (kq zfx M 19 28 20 26 7 0) Q
  refine z_aloadn dX3_init_61 rfl (Or.inl rfl) ?_
  refine z_bipush (k := 12) dX3_init_62 ⟨by decide, ⟨by decide, by decide⟩⟩ ?_
  refine z_newi (len := 12) dX3_init_64 ac_int (by decide +kernel) (fun y => kq_fr (n' := 27) hM (by decide) (by decide) (by decide) (Or.inr rfl) _ y (by decide)) (by decide) ?_
  refine k_M (M' := (kq zfx M 19 28 20 27 7 0)) (kq_n (by decide) (fun y => hM _ y (by decide)) (fun y => zfx_arr sh27 (Or.inl rfl))) ?_
  show Z G (d + 2) mX3_init 66 [(2, 19), (9, 0)] [(2, 27), (2, 19)] 27 156 (kq zfx M 19 28 20 27 7 0) Q
  refine z_putfinal (v := 27) (k := 7) dX3_init_66 fX3_36 uX3_36 sh19 (by decide) rfl r3_7 rfl ⟨by decide, by decide⟩ (by decide) (h0 _ _) ?_
  refine k_M (M' := (kq zfx M 19 28 20 27 8 0)) (kq_p (j := 7) ⟨by decide, by decide⟩ (fun i h1 h2 => absurd h2 (by omega)) (by decide +kernel)) ?_
  show Z G (d + 2) mX3_init 69 [(2, 19), (9, 0)] [] 27 156 (kq zfx M 19 28 20 27 8 0) Q
  refine z_aloadn dX3_init_69 rfl (Or.inl rfl) ?_
  refine z_bipush (k := 12) dX3_init_70 ⟨by decide, ⟨by decide, by decide⟩⟩ ?_
  refine z_anewn (len := 12) dX3_init_72 clX3_9 (by decide +kernel) (fun y => kq_fr (n' := 28) hM (by decide) (by decide) (by decide) (Or.inr rfl) _ y (by decide)) (by decide) ?_
  refine k_M (M' := (kq zfx M 19 28 20 28 8 0)) (kq_nR (by decide) rfl) ?_
  show Z G (d + 2) mX3_init 75 [(2, 19), (9, 0)] [(2, 28), (2, 19)] 28 156 (kq zfx M 19 28 20 28 8 0) Q
  refine z_putfinal (v := 28) (k := 10) dX3_init_75 fX3_39 uX3_39 sh19 (by decide) rfl r3_10 rfl ⟨by decide, by decide⟩ (by decide) (h0 _ _) ?_
  refine k_M (M' := (kq zfx M 19 28 20 28 11 0)) (kq_p (j := 10) ⟨by decide, by decide⟩ (fun i h1 h2 => by rcases (show i = 8 ∨ i = 9 by omega) with rfl | rfl <;> decide +kernel) (by decide +kernel)) ?_
  show Z G (d + 2) mX3_init 78 [(2, 19), (9, 0)] [] 28 156 (kq zfx M 19 28 20 28 11 0) Q
  refine z_aloadn dX3_init_78 rfl (Or.inl rfl) ?_
  refine z_bipush (k := 12) dX3_init_79 ⟨by decide, ⟨by decide, by decide⟩⟩ ?_
  refine z_newi (len := 12) dX3_init_81 ac_int (by decide +kernel) (fun y => kq_fr (n' := 29) hM (by decide) (by decide) (by decide) (Or.inl (by decide)) _ y (by decide)) (by decide) ?_
  refine k_M (M' := (kq zfx M 19 28 20 29 11 0)) (kq_n (by decide) (fun y => hM _ y (by decide)) (fun y => zfx_arr sh29 (Or.inl rfl))) ?_
  show Z G (d + 2) mX3_init 83 [(2, 19), (9, 0)] [(2, 29), (2, 19)] 29 156 (kq zfx M 19 28 20 29 11 0) Q
  refine z_putfinal (v := 29) (k := 11) dX3_init_83 fX3_42 uX3_42 sh19 (by decide) rfl r3_11 rfl ⟨by decide, by decide⟩ (by decide) (h0 _ _) ?_
  refine k_M (M' := (kq zfx M 19 28 20 29 12 0)) (kq_p (j := 11) ⟨by decide, by decide⟩ (fun i h1 h2 => absurd h2 (by omega)) (by decide +kernel)) ?_
  show Z G (d + 2) mX3_init 86 [(2, 19), (9, 0)] [] 29 156 (kq zfx M 19 28 20 29 12 0) Q
  refine z_aloadn dX3_init_86 rfl (Or.inl rfl) ?_
  refine z_bipush (k := 12) dX3_init_87 ⟨by decide, ⟨by decide, by decide⟩⟩ ?_
  refine z_newi (len := 12) dX3_init_89 ac_int (by decide +kernel) (fun y => kq_fr (n' := 30) hM (by decide) (by decide) (by decide) (Or.inl (by decide)) _ y (by decide)) (by decide) ?_
  refine k_M (M' := (kq zfx M 19 28 20 30 12 0)) (kq_n (by decide) (fun y => hM _ y (by decide)) (fun y => zfx_arr sh30 (Or.inl rfl))) ?_
  show Z G (d + 2) mX3_init 91 [(2, 19), (9, 0)] [(2, 30), (2, 19)] 30 156 (kq zfx M 19 28 20 30 12 0) Q
  refine z_putfinal (v := 30) (k := 12) dX3_init_91 fX3_45 uX3_45 sh19 (by decide) rfl r3_12 rfl ⟨by decide, by decide⟩ (by decide) (h0 _ _) ?_
  refine k_M (M' := (kq zfx M 19 28 20 30 13 0)) (kq_p (j := 12) ⟨by decide, by decide⟩ (fun i h1 h2 => absurd h2 (by omega)) (by decide +kernel)) ?_
  show Z G (d + 2) mX3_init 94 [(2, 19), (9, 0)] [] 30 156 (kq zfx M 19 28 20 30 13 0) Q
  refine z_aloadn dX3_init_94 rfl (Or.inl rfl) ?_
  refine z_new dX3_init_95 nX3_9 (by decide +kernel) (by decide) (fun y => kq_fr (n' := 31) hM (by decide) (by decide) (by decide) (Or.inl (by decide)) _ y (by decide)) (by decide) ?_
  show Z G (d + 2) mX3_init 98 [(2, 19), (9, 0)] [(2, 31), (2, 19)] 31 156 (kq zfx M 19 28 20 30 13 0) Q
  refine z_dup dX3_init_98 (show (2 : Nat) ≠ 1 by decide) ?_
  refine k_ci (mt2 := mX1_init) (b := 31) (as := []) (st := [(2, 31), (2, 19)]) (n2 := 39) (en := [(2, 31)]) dX3_init_99 lX3_48 kX1_init iX1_init rfl rfl rfl (by decide) (Nat.le_of_ble_eq_true rfl) (Nat.le_of_ble_eq_true rfl) ⟨by decide, by decide⟩ rfl (k_X1 (o := 31) h0 (show zND 31 by unfold zND; decide) (fun a y h => kq_fr (n' := 31) hM (by decide) (by decide) (by decide) (Or.inl (by decide)) a y h) ?_)
  refine k_M (M' := (kq zfx M 19 28 20 39 13 0)) (kq_o (by decide) (by decide) (Or.inl (by decide)) (by decide) (by decide)) ?_
  show Z G (d + 2) mX3_init 102 [(2, 19), (9, 0)] [(2, 31), (2, 19)] 39 156 (kq zfx M 19 28 20 39 13 0) Q
  refine z_putfinal (v := 31) (k := 14) dX3_init_102 fX3_49 uX3_49 sh19 (by decide) rfl r3_14 rfl ⟨by decide, by decide⟩ (by decide) (h0 _ _) ?_
  refine k_M (M' := (kq zfx M 19 28 20 39 15 0)) (kq_p (j := 14) ⟨by decide, by decide⟩ (fun i h1 h2 => by rw [show i = 13 by omega]; decide +kernel) (by decide +kernel)) ?_
  show Z G (d + 2) mX3_init 105 [(2, 19), (9, 0)] [] 39 156 (kq zfx M 19 28 20 39 15 0) Q
  refine z_aloadn dX3_init_105 rfl (Or.inl rfl) ?_
  refine z_new dX3_init_106 nX3_9 (by decide +kernel) (by decide) (fun y => kq_fr (n' := 40) hM (by decide) (by decide) (by decide) (Or.inl (by decide)) _ y (by decide)) (by decide) ?_
  show Z G (d + 2) mX3_init 109 [(2, 19), (9, 0)] [(2, 40), (2, 19)] 40 156 (kq zfx M 19 28 20 39 15 0) Q
  refine z_dup dX3_init_109 (show (2 : Nat) ≠ 1 by decide) ?_
  refine k_ci (mt2 := mX1_init) (b := 40) (as := []) (st := [(2, 40), (2, 19)]) (n2 := 48) (en := [(2, 40)]) dX3_init_110 lX3_48 kX1_init iX1_init rfl rfl rfl (by decide) (Nat.le_of_ble_eq_true rfl) (Nat.le_of_ble_eq_true rfl) ⟨by decide, by decide⟩ rfl (k_X1 (o := 40) h0 (show zND 40 by unfold zND; decide) (fun a y h => kq_fr (n' := 40) hM (by decide) (by decide) (by decide) (Or.inl (by decide)) a y h) ?_)
  refine k_M (M' := (kq zfx M 19 28 20 48 15 0)) (kq_o (by decide) (by decide) (Or.inl (by decide)) (by decide) (by decide)) ?_
  show Z G (d + 2) mX3_init 113 [(2, 19), (9, 0)] [(2, 40), (2, 19)] 48 156 (kq zfx M 19 28 20 48 15 0) Q
  refine z_putfinal (v := 40) (k := 15) dX3_init_113 fX3_53 uX3_53 sh19 (by decide) rfl r3_15 rfl ⟨by decide, by decide⟩ (by decide) (h0 _ _) ?_
  refine k_M (M' := (kq zfx M 19 28 20 48 16 0)) (kq_p (j := 15) ⟨by decide, by decide⟩ (fun i h1 h2 => absurd h2 (by omega)) (by decide +kernel)) ?_
  show Z G (d + 2) mX3_init 116 [(2, 19), (9, 0)] [] 48 156 (kq zfx M 19 28 20 48 16 0) Q
  refine z_iconst (k := 0) dX3_init_116 ⟨by decide, by decide⟩ ?_
  refine y_istoren (ls' := [(2, 19), (0, 0)]) dX3_init_117 rfl rfl ?_
  refine k_X3L h0 hM 12 0 rfl ?_
  rw [show kq zfx M 19 28 20 156 16 12 = kq_f zfx M 19 156 from kq_e (by decide) (by decide) (zfx_tl (K := 16) (by decide +kernel)) (Or.inr ⟨by decide, zfx_tl (K := 12) (by decide +kernel)⟩)]
  exact hq
/-- the world when it is made -/
def kW (M M' : zM) : Prop := (∀ a i, (a < 2 ∨ 11 < a) → M' a i = M a i) ∧ (∀ a i, 2 ≤ a → a ≤ 11 → a ≠ 8 → a ≠ 9 → a ≠ 10 → ¬ (a = 2 ∧ i = 10) → M' a i = zfx a i) ∧ M' 2 10 = 2 ∧ zR 6 6 6 (zpw 6) (M' 9) (zmB 6 6 (zw0 (fun _ => 0)))
def kF2 : zM := fun a i => if a = 2 then zfx a i else 0
theorem kW_G : zW (kG G kF2) := ⟨fun k _ => rfl, fun a i h1 h2 => if_neg (by omega)⟩
set_option maxRecDepth 20000 in
set_option maxHeartbeats 4000000 in
theorem k_X10m (hW : zW G) (h2 : ∀ a i, 2 ≤ a → a ≤ 11 → M a i = zfx a i) (hq : ∀ M', kW M M' → Q (9, 0) M') : Z G (d + 3) mX10_init 76 [(2, 2)] [] 11 11 M Q := by
  have z4 : M 2 4 = 0 := (h2 2 4 (by decide) (by decide)).trans (by decide +kernel)
  have z10 : M 2 10 = 0 := (h2 2 10 (by decide) (by decide)).trans (by decide +kernel)
  refine z_aloadn dX10_init_76 rfl (Or.inl rfl) ?_
  refine w_cv (mt2 := mX10_measureKin) (en := [(2, 2), (9, 0)]) (st := []) (as := []) (by decide) (by decide) dX10_init_77 lX10_39 kX10_measureKin iX10_measureKin eX10_measureKin rfl sh2 (by decide +kernel) (Nat.le_of_ble_eq_true rfl) (Nat.le_of_ble_eq_true rfl) rfl (sw_kin (A := fun _ => 0) (N := 0) (by decide) hW z4 (by decide) (by rw [z10]; decide) (fun c c0 c1 => absurd c1 (by omega)) (fun T K _ _ => ?_))
  show Z G (d + 3) mX10_init 80 [(2, 2)] [] 11 11 (zset (zrow (zrow M 10 K) 8 T) 2 10 (M 2 10 + 1)) Q
  rw [z10]
  generalize hM1 : zset (zrow (zrow M 10 K) 8 T) 2 10 (0 + 1) = M1
  have o1 : ∀ a i, a ≠ 8 → a ≠ 10 → ¬ (a = 2 ∧ i = 10) → M1 a i = M a i := fun a i c1 c2 c3 => by
    rw [← hM1, zset_ne c3, zrow_off c1, zrow_off c2]
  have v1 : M1 2 10 = 1 := by rw [← hM1]; exact zset_same
  refine z_aloadn dX10_init_80 rfl (Or.inl rfl) ?_
  refine w_cv (mt2 := mX10_measureWays) (en := [(2, 2), (9, 0)]) (st := []) (as := []) (by decide) (by decide) dX10_init_81 lX10_42 kX10_measureWays iX10_measureWays eX10_measureWays rfl sh2 (by decide +kernel) (Nat.le_of_ble_eq_true rfl) (Nat.le_of_ble_eq_true rfl) rfl (sw_ways (d := d + 1) (A := fun _ => 0) (by decide) hW (by rw [v1]; decide) (fun k k0 k1 => ⟨?_, by decide, by decide⟩) (fun T2 hT2 => ?_))
  · rw [o1 7 k (by decide) (by decide) (by omega), h2 7 k (by decide) (by decide)]
    exact zfx_arr sh7 (Or.inl rfl)
  show Z G (d + 3) mX10_init 84 [(2, 2)] [] 11 11 (zset (zrow M1 9 T2) 2 10 (M1 2 10 + 1)) Q
  refine z_return dX10_init_84 rfl rfl (hq _ ⟨fun a i c => ?_, fun a i c1 c2 c3 c4 c5 c6 => ?_, ?_, ?_⟩)
  · rw [zset_ne (by omega), zrow_off (by omega), o1 a i (by omega) (by omega) (by omega)]
  · rw [zset_ne c6, zrow_off c4, o1 a i c3 c5 c6, h2 a i c1 c2]
  · rw [zset_same, v1]; rfl
  · have e : zset (zrow M1 9 T2) 2 10 (M1 2 10 + 1) 9 = T2 := by
      funext i; rw [zset_ne (by omega), zrow_at]
    rw [e]; exact hT2
set_option maxRecDepth 20000 in
set_option maxHeartbeats 4000000 in
theorem k_X10 (h0 : ∀ a i, G.2.2.2.2.2.2 a i = 0) (hM : ∀ a y, (2 : Int) ≤ a → M a y = 0) (hq : ∀ M', kW M M' → Q (9, 0) M') : Z G (d + 3) mX10_init 0 [(2, 2)] [] 2 11 M Q := by
  refine k_M (M' := kq zfx M 2 2 3 2 0 0) (kq_0 (fun y => hM _ y (by decide)) (fun y => hM _ y (by decide)) (by decide)) ?_
  have hM := fun (a y : Int) (h : (3 : Int) ≤ a) => hM a y (by omega)
  refine z_aloadn dX10_init_0 rfl (Or.inl rfl) ?_
  refine z_objinit dX10_init_1 loX10_3 oi_i (by decide) (Nat.le_of_ble_eq_true rfl) ?_
  refine z_aloadn dX10_init_4 rfl (Or.inl rfl) ?_
  refine z_iconst (k := 4) dX10_init_5 ⟨by decide, by decide⟩ ?_
  refine z_newi (len := 4) dX10_init_6 ac_int (by decide +kernel) (fun y => kq_fr (n' := 3) hM (by decide) (by decide) (by decide) (Or.inl (by decide)) _ y (by decide)) (by decide) ?_
  refine k_M (M' := (kq zfx M 2 2 3 3 0 0)) (kq_n (by decide) (fun y => hM _ y (by decide)) (fun y => zfx_arr sh3 (Or.inl rfl))) ?_
  show Z G (d + 3) mX10_init 8 [(2, 2)] [(2, 3), (2, 2)] 3 11 (kq zfx M 2 2 3 3 0 0) Q
  refine z_putfinal (v := 3) (k := 0) dX10_init_8 fX10_9 uX10_9 sh2 (by decide) rfl r10_0 rfl ⟨by decide, by decide⟩ (by decide) (h0 _ _) ?_
  refine k_M (M' := (kq zfx M 2 2 3 3 1 0)) (kq_p (j := 0) ⟨by decide, by decide⟩ (fun i h1 h2 => absurd h2 (by omega)) (by decide +kernel)) ?_
  show Z G (d + 3) mX10_init 11 [(2, 2)] [] 3 11 (kq zfx M 2 2 3 3 1 0) Q
  refine z_aloadn dX10_init_11 rfl (Or.inl rfl) ?_
  refine z_bipush (k := 8) dX10_init_12 ⟨by decide, ⟨by decide, by decide⟩⟩ ?_
  refine z_newi (len := 8) dX10_init_14 ac_int (by decide +kernel) (fun y => kq_fr (n' := 4) hM (by decide) (by decide) (by decide) (Or.inl (by decide)) _ y (by decide)) (by decide) ?_
  refine k_M (M' := (kq zfx M 2 2 3 4 1 0)) (kq_n (by decide) (fun y => hM _ y (by decide)) (fun y => zfx_arr sh4 (Or.inl rfl))) ?_
  show Z G (d + 3) mX10_init 16 [(2, 2)] [(2, 4), (2, 2)] 4 11 (kq zfx M 2 2 3 4 1 0) Q
  refine z_putfinal (v := 4) (k := 1) dX10_init_16 fX10_15 uX10_15 sh2 (by decide) rfl r10_1 rfl ⟨by decide, by decide⟩ (by decide) (h0 _ _) ?_
  refine k_M (M' := (kq zfx M 2 2 3 4 2 0)) (kq_p (j := 1) ⟨by decide, by decide⟩ (fun i h1 h2 => absurd h2 (by omega)) (by decide +kernel)) ?_
  show Z G (d + 3) mX10_init 19 [(2, 2)] [] 4 11 (kq zfx M 2 2 3 4 2 0) Q
  refine z_aloadn dX10_init_19 rfl (Or.inl rfl) ?_
  refine z_bipush (k := 8) dX10_init_20 ⟨by decide, ⟨by decide, by decide⟩⟩ ?_
  refine z_newi (len := 8) dX10_init_22 ac_int (by decide +kernel) (fun y => kq_fr (n' := 5) hM (by decide) (by decide) (by decide) (Or.inl (by decide)) _ y (by decide)) (by decide) ?_
  refine k_M (M' := (kq zfx M 2 2 3 5 2 0)) (kq_n (by decide) (fun y => hM _ y (by decide)) (fun y => zfx_arr sh5 (Or.inl rfl))) ?_
  show Z G (d + 3) mX10_init 24 [(2, 2)] [(2, 5), (2, 2)] 5 11 (kq zfx M 2 2 3 5 2 0) Q
  refine z_putfinal (v := 5) (k := 2) dX10_init_24 fX10_18 uX10_18 sh2 (by decide) rfl r10_2 rfl ⟨by decide, by decide⟩ (by decide) (h0 _ _) ?_
  refine k_M (M' := (kq zfx M 2 2 3 5 3 0)) (kq_p (j := 2) ⟨by decide, by decide⟩ (fun i h1 h2 => absurd h2 (by omega)) (by decide +kernel)) ?_
  show Z G (d + 3) mX10_init 27 [(2, 2)] [] 5 11 (kq zfx M 2 2 3 5 3 0) Q
  refine z_aloadn dX10_init_27 rfl (Or.inl rfl) ?_
  refine z_bipush (k := 8) dX10_init_28 ⟨by decide, ⟨by decide, by decide⟩⟩ ?_
  refine z_newi (len := 8) dX10_init_30 ac_int (by decide +kernel) (fun y => kq_fr (n' := 6) hM (by decide) (by decide) (by decide) (Or.inl (by decide)) _ y (by decide)) (by decide) ?_
  refine k_M (M' := (kq zfx M 2 2 3 6 3 0)) (kq_n (by decide) (fun y => hM _ y (by decide)) (fun y => zfx_arr sh6 (Or.inl rfl))) ?_
  show Z G (d + 3) mX10_init 32 [(2, 2)] [(2, 6), (2, 2)] 6 11 (kq zfx M 2 2 3 6 3 0) Q
  refine z_putfinal (v := 6) (k := 3) dX10_init_32 fX10_21 uX10_21 sh2 (by decide) rfl r10_3 rfl ⟨by decide, by decide⟩ (by decide) (h0 _ _) ?_
  refine k_M (M' := (kq zfx M 2 2 3 6 4 0)) (kq_p (j := 3) ⟨by decide, by decide⟩ (fun i h1 h2 => absurd h2 (by omega)) (by decide +kernel)) ?_
  show Z G (d + 3) mX10_init 35 [(2, 2)] [] 6 11 (kq zfx M 2 2 3 6 4 0) Q
  refine z_aloadn dX10_init_35 rfl (Or.inl rfl) ?_
  refine z_bipush (k := 36) dX10_init_36 ⟨by decide, ⟨by decide, by decide⟩⟩ ?_
  refine z_newi (len := 36) dX10_init_38 ac_int (by decide +kernel) (fun y => kq_fr (n' := 7) hM (by decide) (by decide) (by decide) (Or.inl (by decide)) _ y (by decide)) (by decide) ?_
  refine k_M (M' := (kq zfx M 2 2 3 7 4 0)) (kq_n (by decide) (fun y => hM _ y (by decide)) (fun y => zfx_arr sh7 (Or.inl rfl))) ?_
  show Z G (d + 3) mX10_init 40 [(2, 2)] [(2, 7), (2, 2)] 7 11 (kq zfx M 2 2 3 7 4 0) Q
  refine z_putfinal (v := 7) (k := 5) dX10_init_40 fX10_24 uX10_24 sh2 (by decide) rfl r10_5 rfl ⟨by decide, by decide⟩ (by decide) (h0 _ _) ?_
  refine k_M (M' := (kq zfx M 2 2 3 7 6 0)) (kq_p (j := 5) ⟨by decide, by decide⟩ (fun i h1 h2 => by rw [show i = 4 by omega]; decide +kernel) (by decide +kernel)) ?_
  show Z G (d + 3) mX10_init 43 [(2, 2)] [] 7 11 (kq zfx M 2 2 3 7 6 0) Q
  refine z_aloadn dX10_init_43 rfl (Or.inl rfl) ?_
  refine z_bipush (k := 64) dX10_init_44 ⟨by decide, ⟨by decide, by decide⟩⟩ ?_
  refine z_newi (len := 64) dX10_init_46 ac_int (by decide +kernel) (fun y => kq_fr (n' := 8) hM (by decide) (by decide) (by decide) (Or.inl (by decide)) _ y (by decide)) (by decide) ?_
  refine k_M (M' := (kq zfx M 2 2 3 8 6 0)) (kq_n (by decide) (fun y => hM _ y (by decide)) (fun y => zfx_arr sh8 (Or.inl rfl))) ?_
  show Z G (d + 3) mX10_init 48 [(2, 2)] [(2, 8), (2, 2)] 8 11 (kq zfx M 2 2 3 8 6 0) Q
  refine z_putfinal (v := 8) (k := 6) dX10_init_48 fX10_27 uX10_27 sh2 (by decide) rfl r10_6 rfl ⟨by decide, by decide⟩ (by decide) (h0 _ _) ?_
  refine k_M (M' := (kq zfx M 2 2 3 8 7 0)) (kq_p (j := 6) ⟨by decide, by decide⟩ (fun i h1 h2 => absurd h2 (by omega)) (by decide +kernel)) ?_
  show Z G (d + 3) mX10_init 51 [(2, 2)] [] 8 11 (kq zfx M 2 2 3 8 7 0) Q
  refine z_aloadn dX10_init_51 rfl (Or.inl rfl) ?_
  refine z_bipush (k := 36) dX10_init_52 ⟨by decide, ⟨by decide, by decide⟩⟩ ?_
  refine z_newi (len := 36) dX10_init_54 ac_int (by decide +kernel) (fun y => kq_fr (n' := 9) hM (by decide) (by decide) (by decide) (Or.inl (by decide)) _ y (by decide)) (by decide) ?_
  refine k_M (M' := (kq zfx M 2 2 3 9 7 0)) (kq_n (by decide) (fun y => hM _ y (by decide)) (fun y => zfx_arr sh9 (Or.inl rfl))) ?_
  show Z G (d + 3) mX10_init 56 [(2, 2)] [(2, 9), (2, 2)] 9 11 (kq zfx M 2 2 3 9 7 0) Q
  refine z_putfinal (v := 9) (k := 7) dX10_init_56 fX10_30 uX10_30 sh2 (by decide) rfl r10_7 rfl ⟨by decide, by decide⟩ (by decide) (h0 _ _) ?_
  refine k_M (M' := (kq zfx M 2 2 3 9 8 0)) (kq_p (j := 7) ⟨by decide, by decide⟩ (fun i h1 h2 => absurd h2 (by omega)) (by decide +kernel)) ?_
  show Z G (d + 3) mX10_init 59 [(2, 2)] [] 9 11 (kq zfx M 2 2 3 9 8 0) Q
  refine z_aloadn dX10_init_59 rfl (Or.inl rfl) ?_
  refine z_bipush (k := 8) dX10_init_60 ⟨by decide, ⟨by decide, by decide⟩⟩ ?_
  refine z_newi (len := 8) dX10_init_62 ac_int (by decide +kernel) (fun y => kq_fr (n' := 10) hM (by decide) (by decide) (by decide) (Or.inl (by decide)) _ y (by decide)) (by decide) ?_
  refine k_M (M' := (kq zfx M 2 2 3 10 8 0)) (kq_n (by decide) (fun y => hM _ y (by decide)) (fun y => zfx_arr sh10 (Or.inl rfl))) ?_
  show Z G (d + 3) mX10_init 64 [(2, 2)] [(2, 10), (2, 2)] 10 11 (kq zfx M 2 2 3 10 8 0) Q
  refine z_putfinal (v := 10) (k := 8) dX10_init_64 fX10_33 uX10_33 sh2 (by decide) rfl r10_8 rfl ⟨by decide, by decide⟩ (by decide) (h0 _ _) ?_
  refine k_M (M' := (kq zfx M 2 2 3 10 9 0)) (kq_p (j := 8) ⟨by decide, by decide⟩ (fun i h1 h2 => absurd h2 (by omega)) (by decide +kernel)) ?_
  show Z G (d + 3) mX10_init 67 [(2, 2)] [] 10 11 (kq zfx M 2 2 3 10 9 0) Q
  refine z_aloadn dX10_init_67 rfl (Or.inl rfl) ?_
  refine z_sipush (k := 300) dX10_init_68 ⟨by decide, ⟨by decide, by decide⟩⟩ ?_
  refine z_newi (len := 300) dX10_init_71 ac_int (by decide +kernel) (fun y => kq_fr (n' := 11) hM (by decide) (by decide) (by decide) (Or.inl (by decide)) _ y (by decide)) (by decide) ?_
  refine k_M (M' := (kq zfx M 2 2 3 11 9 0)) (kq_n (by decide) (fun y => hM _ y (by decide)) (fun y => zfx_arr sh11 (Or.inl rfl))) ?_
  show Z G (d + 3) mX10_init 73 [(2, 2)] [(2, 11), (2, 2)] 11 11 (kq zfx M 2 2 3 11 9 0) Q
  refine z_putfinal (v := 11) (k := 9) dX10_init_73 fX10_36 uX10_36 sh2 (by decide) rfl r10_9 rfl ⟨by decide, by decide⟩ (by decide) (h0 _ _) ?_
  refine k_M (M' := (kq zfx M 2 2 3 11 10 0)) (kq_p (j := 9) ⟨by decide, by decide⟩ (fun i h1 h2 => absurd h2 (by omega)) (by decide +kernel)) ?_
  show Z G (d + 3) mX10_init 76 [(2, 2)] [] 11 11 (kq zfx M 2 2 3 11 10 0) Q
  refine k_M (M' := kq_f zfx M 2 11) (kq_e (by decide) (by decide) (zfx_tl (K := 10) (by decide +kernel)) (Or.inl rfl)) ?_
  refine k_sw (F := kF2) (fun a i q => ?_) h0 (k_X10m kW_G (fun a i c1 c2 => if_pos ⟨c1, c2⟩) (fun M' hw => hq M' ⟨fun a i c => (hw.1 a i c).trans (if_neg (by omega)), hw.2⟩))
  have c : a = 2 := by
    by_cases c : a = 2
    · exact c
    · exact absurd (if_neg c) q
  subst c
  exact (if_pos ⟨by decide, by decide⟩ : kq_f zfx M 2 11 2 i = zfx 2 i).trans (if_pos rfl).symm
end KL
