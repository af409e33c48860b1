theorem z_zdf (B : Nat) : ∀ t : Nat, zfv B t 0 = zdf t
  | 0 => rfl
  | 1 => rfl
  | 2 => rfl
  | _ + 3 => rfl
theorem z_one {D : va_G} {q : Nat × va_E} {H : Heap} (h : va_at D vwCl q H) : va_P D vwCl [q] H := by
  intro k x hx
  have hz : k < 1 := (List.getElem?_eq_some_iff.mp hx).1
  rw [show k = 0 by omega] at hx
  cases hx
  exact h
section ZR
variable {G : zG} {d : Nat} {mt : zMt} {pc : Nat} {ls st stk : List zV} {n n1 n2 : Nat} {M : zM} {Q : zV → zM → Prop}
theorem z_objinit {idx : Nat} {b : Int} (hd : decode mt.2.1 pc = .ok (.invokespecial idx, 3)) (hk : Cond.methodLink mt.1.cls idx Lib.objectInit ∈ zTs) (hi : Cond.instanceMethod Lib.objectInit ∈ zTs ∧ Cond.code Lib.objectInit ⟨#[0xb1]⟩ 1 none ∈ zTs) (hb : 1 ≤ b) (hcs : zcs st ≤ 8) (h : Z G (d + 1) mt (pc + 3) ls st n n1 M Q) : Z G (d + 1) mt pc ls ((2, b) :: st) n n1 M Q := by
  intro oM oF oL oS p e R s m args below meth c H locs c1 s1 lsC QS X hS hr hl hll hz hn hc hs hE
  have hW := h oM oF oL (z_okt oS) p e R s m args below meth c H locs c1 s1 lsC QS X hS hr hl hll hz hn hc hs hE
  have hts := zS_hts X.2.2.2.2.1 args
  have h1 := X.2.2.2.2.2.2.1
  have h2 := X.2.2.2.2.2.2.2.1
  rw [List.map_cons, z_rf hb]
  have hrm : 2 * (F0 m pc lsC (.ref (zB G + (b - 1).toNat) :: st.map (zc G))).monitorRoom + ((st.map (zc G)).map fun v => v.category).sum ≤ 8 := lv_room (by rw [z_cs]; exact hcs)
  exact W.objInit X.1 X.2.1 X.2.2.2.1 (hts _ hk) (hts _ hi.1) (hts _ hi.2) rfl (by rw [X.2.2.1]; exact hl.1) rfl hd (by omega) (by omega) hW
theorem z_new {idx ci N : Nat} (hd : decode mt.2.1 pc = .ok (.new idx, 3)) (hw : znw mt.1.cls idx ci N) (hsh : zsh (n + 1) = (ci, N)) (hci : ci < 100) (h0 : ∀ y, M ((n + 1 : Nat) : Int) y = 0) (hlt : n < n1) (h : Z G d mt (pc + 3) ls ((2, ((n + 1 : Nat) : Int)) :: st) (n + 1) n1 M Q) : Z G d mt pc ls st n n1 M Q := by
  intro oM oF oL oS p e R s m args below meth c H locs c1 s1 lsC QS X hS hr hl hll hz hn hc hs hE
  obtain ⟨C, T, ty, hcl, w1, w2, w3, hin, hty, hdf⟩ := hw
  have hts := zS_hts X.2.2.2.2.1 args
  refine z_wsz fun hle => ?_
  have hsz := z_low hr hS hz X.2.2.2.2.2.2.2.2 hle
  have hm1 := zsl_mono (show n + 1 ≤ n1 from hlt)
  have hm2 : zsl (n + 1) = zsl n + N := by show zsl n + (zsh (n + 1)).2 = _; rw [hsh]
  have hKn := X.2.2.2.2.1.2.2.2.1.1 ci _ hcl
  refine W.newcK X.1 X.2.1 X.2.2.2.1 (hts _ w1) (hts _ w2) (hts _ w3) rfl hd (by omega) (by omega) hKn.2.1 rfl fun H1 kC hkC e1 z1 o1 => ?_
  have hP1 : zrep G (n + 1) M H1 := by
    show va_P G.2.1 vwCl (zws G (n + 1) M) H1
    rw [← zws_push]
    refine va_P.app (va_P.kept hr (fun k x hx => o1 x.1 ((hr k x hx).lt))) (z_one ?_)
    rw [z_cell_obj hsh hci, ← hsz]
    refine ⟨_, hcl, (u_born ty hts hin hKn hkC e1 hty).to (fun j hj => ?_)⟩
    rw [hdf j hj]
    have h0' : ∀ y, M ((n : Int) + 1) y = 0 := fun y => by have q := h0 y; simpa using q
    simp [vp_V, hj, h0', z_zdf]
  have hS1 : va_S (zA G) s.heap H1 locs := ⟨Nat.le_trans hS.1 (by omega), fun x h1 h2 => (o1 x (Nat.lt_of_lt_of_le h1 hS.1)).trans (hS.2.1 x h1 h2), hS.2.2⟩
  have hW := h oM oF oL (z_okc (t := 2) trivial oS) p e R s m args below meth c H1 locs (c1 + 1) (s1 + N) lsC QS X hS1 hP1 hl hll (by omega) hlt (by omega) (by omega) hE
  rw [List.map_cons, z_rf (by omega), show ((((n + 1 : Nat) : Int)) - 1).toNat = n by omega, ← hsz] at hW
  exact hW
theorem z_newarr {at_ : ArrayType} {ty : FieldType} {len t0 : Nat} {a0 : (Nat → Int32) ⊕ (Nat → Int64) ⊕ (Nat → UInt32) ⊕ (Nat → UInt64) ⊕ (Nat → Option Nat)} (hd : decode mt.2.1 pc = .ok (.newarray at_, 2)) (hty : newarray.typeOf at_ = ty) (hwd : Cond.arrayClass (newarray.typeOf at_) ∈ zTs) (hby : len * componentBytes ty ≤ 536870912) (hlen : len < 100000)
    (hcell : zcell G M (n + 1) = .inl (G.2.2.1 t0, len, a0)) (htys : (ztys G)[t0]? = some (G.2.2.1 t0, ty)) (hra : ∀ U cA, va_RA U cA ty → U.vm.findClass ("[" ++ ty.toString) = some cA) (hcl : ∀ cA, vp_cell cA (len, a0) = arrV cA len (fun _ => defaultValue ty)) (hsh : (zsh (n + 1)).2 = len) (hlt : n < n1)
    (h : Z G d mt (pc + 2) ls ((2, ((n + 1 : Nat) : Int)) :: st) (n + 1) n1 M Q) : Z G d mt pc ls ((0, (len : Int)) :: st) n n1 M Q := by
  intro oM oF oL oS p e R s m args below meth c H locs c1 s1 lsC QS X hS hr hl hll hz hn hc hs hE
  have hts := zS_hts X.2.2.2.2.1 args
  refine z_wsz fun hle => ?_
  have hsz := z_low hr hS hz X.2.2.2.2.2.2.2.2 hle
  have hm1 := zsl_mono (show n + 1 ≤ n1 from hlt)
  have hm2 : zsl (n + 1) = zsl n + len := by show zsl n + (zsh (n + 1)).2 = _; rw [hsh]
  subst hty
  refine va_newaK X.1 X.2.1 (hts _ hwd) rfl hd rfl (by rw [z_i0, z_ilt ⟨by omega, by omega⟩ z_in0]; omega) (N := len) (by rw [z_clp (by omega) (by omega)]; omega) hby (by omega) (by omega) rfl fun H1 cA e1 z1 o1 hAr hNm => ?_
  have hcA : cA = G.2.2.1 t0 := by
    have := hra s _ (X.2.2.2.2.1.2.2.2.1.2 t0 _ htys).2
    exact Option.some.inj (hNm.symm.trans this)
  subst hcA
  have hP1 : zrep G (n + 1) M H1 := by
    show va_P G.2.1 vwCl (zws G (n + 1) M) H1
    rw [← zws_push]
    refine va_P.app (va_P.kept hr (fun k x hx => o1 x.1 ((hr k x hx).lt))) (z_one ?_)
    rw [hcell, ← hsz]
    show H1[H.size]? = some (vp_cell _ _)
    rw [hcl]
    exact e1
  have hS1 : va_S (zA G) s.heap H1 locs := ⟨Nat.le_trans hS.1 (by omega), fun x h1 h2 => (o1 x (Nat.lt_of_lt_of_le h1 hS.1)).trans (hS.2.1 x h1 h2), hS.2.2⟩
  have hW := h oM oF oL (z_okc (t := 2) trivial (z_okt oS)) p e R s m args below meth c H1 locs (c1 + 1) (s1 + len) lsC QS X hS1 hP1 hl hll (by omega) hlt (by omega) (by omega) hE
  rw [List.map_cons, z_rf (by omega), show ((((n + 1 : Nat) : Int)) - 1).toNat = n by omega, ← hsz] at hW
  exact hW
theorem z_newi {len : Nat} (hd : decode mt.2.1 pc = .ok (.newarray .int, 2)) (hwd : Cond.arrayClass .int ∈ zTs) (hsh : zsh (n + 1) = (100, len)) (h0 : ∀ y, M ((n + 1 : Nat) : Int) y = 0) (hlt : n < n1) (h : Z G d mt (pc + 2) ls ((2, ((n + 1 : Nat) : Int)) :: st) (n + 1) n1 M Q) : Z G d mt pc ls ((0, (len : Int)) :: st) n n1 M Q := by
  have hlen : len < 100000 := by have q := zsh_small (n + 1); rw [hsh] at q; exact q
  refine z_newarr hd rfl hwd (by show len * 4 ≤ _; omega) hlen (z_cell_i hsh) rfl (fun U cA q => q) (fun cA => ?_) (by rw [hsh]) hlt h
  rw [vp_cell_i]
  congr 1; funext j; show Value.int _ = Value.int 0; rw [h0]; rfl
theorem z_newl {len : Nat} (hd : decode mt.2.1 pc = .ok (.newarray .long, 2)) (hwd : Cond.arrayClass .long ∈ zTs) (hsh : zsh (n + 1) = (101, len)) (h0 : ∀ y, M ((n + 1 : Nat) : Int) y = 0) (hlt : n < n1) (h : Z G d mt (pc + 2) ls ((2, ((n + 1 : Nat) : Int)) :: st) (n + 1) n1 M Q) : Z G d mt pc ls ((0, (len : Int)) :: st) n n1 M Q := by
  have hlen : len < 100000 := by have q := zsh_small (n + 1); rw [hsh] at q; exact q
  refine z_newarr hd rfl hwd (by show len * 8 ≤ _; omega) hlen (z_cell_l hsh) rfl (fun U cA q => q) (fun cA => ?_) (by rw [hsh]) hlt h
  rw [vp_cell_l]
  congr 1; funext j; show Value.long _ = Value.long 0; rw [h0]; rfl
theorem z_newz {len : Nat} (hd : decode mt.2.1 pc = .ok (.newarray .boolean, 2)) (hwd : Cond.arrayClass .boolean ∈ zTs) (hsh : zsh (n + 1) = (102, len)) (h0 : ∀ y, M ((n + 1 : Nat) : Int) y = 0) (hlt : n < n1) (h : Z G d mt (pc + 2) ls ((2, ((n + 1 : Nat) : Int)) :: st) (n + 1) n1 M Q) : Z G d mt pc ls ((0, (len : Int)) :: st) n n1 M Q := by
  have hlen : len < 100000 := by have q := zsh_small (n + 1); rw [hsh] at q; exact q
  refine z_newarr hd rfl hwd (by show len * 1 ≤ _; omega) hlen (z_cell_z hsh) rfl (fun U cA q => q) (fun cA => ?_) (by rw [hsh]) hlt h
  rw [vp_cell_i]
  congr 1; funext j; show Value.int _ = Value.int 0; rw [h0]; rfl
theorem z_anew {C : String} {idx len t0 : Nat} (hd : decode mt.2.1 pc = .ok (.anewarray idx, 3)) (hwl : Cond.classLink mt.1.cls idx C ∈ zTs) (hao : ∀ U, zS G U → va_AO C U) (hlen : len < 100000)
    (hcell : zcell G M (n + 1) = .inl (G.2.2.1 t0, len, .inr (.inr (.inr (.inr fun k : Nat => zopt (zB G) (M ((n + 1 : Nat) : Int) k)))))) (htys : (ztys G)[t0]? = some (G.2.2.1 t0, .object C)) (hsh : (zsh (n + 1)).2 = len) (h0 : ∀ y, M ((n + 1 : Nat) : Int) y = 0) (hlt : n < n1)
    (h : Z G d mt (pc + 3) ls ((2, ((n + 1 : Nat) : Int)) :: st) (n + 1) n1 M Q) : Z G d mt pc ls ((0, (len : Int)) :: st) n n1 M Q := by
  intro oM oF oL oS p e R s m args below meth c H locs c1 s1 lsC QS X hS hr hl hll hz hn hc hs hE
  have hts := zS_hts X.2.2.2.2.1 args
  refine z_wsz fun hle => ?_
  have hsz := z_low hr hS hz X.2.2.2.2.2.2.2.2 hle
  have hm1 := zsl_mono (show n + 1 ≤ n1 from hlt)
  have hm2 : zsl (n + 1) = zsl n + len := by show zsl n + (zsh (n + 1)).2 = _; rw [hsh]
  have hclp : (Int32.ofInt (len : Int)).toNatClampNeg = len := by rw [z_clp (by omega) (by omega)]; omega
  refine W.anew X.1 X.2.1 X.2.2.2.1 (hts _ hwl) (va_AO.use (hao s X.2.2.2.2.1)) rfl hd rfl (by rw [z_i0, z_ilt ⟨by omega, by omega⟩ z_in0]; omega) (by rw [hclp]; omega) (by omega) (by rw [hclp]; omega) fun cA kA comp f1 f2 f3 f4 => ?_
  rw [hclp]
  have hcA : cA = G.2.2.1 t0 := by
    obtain ⟨kA', comp', g1, g2, g3, g4⟩ := (X.2.2.2.2.1.2.2.2.1.2 t0 _ htys).2
    exact Option.some.inj (f1.symm.trans g4)
  subst hcA
  generalize hH1 : H.push ({ cls := G.2.2.1 t0, slots := Array.replicate len .null, vm := .none } : Cell) = H1
  have z1 : H1.size = H.size + 1 := by rw [← hH1, Array.size_push]
  have e1 : H1[H.size]? = some (arrV (G.2.2.1 t0) len (fun _ => .null)) := by rw [← hH1, Array.getElem?_push_size, ← arrV_new]
  have o1 : ∀ q : Nat, q < H.size → H1[q]? = H[q]? := fun q hq => by rw [← hH1, Array.getElem?_push, if_neg (Nat.ne_of_lt hq)]
  have hP1 : zrep G (n + 1) M H1 := by
    show va_P G.2.1 vwCl (zws G (n + 1) M) H1
    rw [← zws_push]
    refine va_P.app (va_P.kept hr (fun k x hx => o1 x.1 ((hr k x hx).lt))) (z_one ?_)
    rw [hcell, ← hsz]
    show H1[H.size]? = some (vp_cell _ _)
    rw [vp_cell_q, e1]
    congr 2; funext j
    rw [h0]; rfl
  have hS1 : va_S (zA G) s.heap H1 locs := ⟨Nat.le_trans hS.1 (by omega), fun x h1 h2 => (o1 x (Nat.lt_of_lt_of_le h1 hS.1)).trans (hS.2.1 x h1 h2), hS.2.2⟩
  have hW := h oM oF oL (z_okc (t := 2) trivial (z_okt oS)) p e R s m args below meth c H1 locs (c1 + 1) (s1 + len) lsC QS X hS1 hP1 hl hll (by omega) hlt (by omega) (by omega) hE
  rw [List.map_cons, z_rf (by omega), show ((((n + 1 : Nat) : Int)) - 1).toNat = n by omega, ← hsz] at hW
  exact hW
theorem z_anews {idx len : Nat} (hd : decode mt.2.1 pc = .ok (.anewarray idx, 3)) (hwl : Cond.classLink mt.1.cls idx "AnswersFirst$Script" ∈ zTs) (hsh : zsh (n + 1) = (103, len)) (h0 : ∀ y, M ((n + 1 : Nat) : Int) y = 0) (hlt : n < n1) (h : Z G d mt (pc + 3) ls ((2, ((n + 1 : Nat) : Int)) :: st) (n + 1) n1 M Q) : Z G d mt pc ls ((0, (len : Int)) :: st) n n1 M Q := by
  have hlen : len < 100000 := by have q := zsh_small (n + 1); rw [hsh] at q; exact q
  exact z_anew hd hwl (fun U q => q.2.2.1.1) hlen (z_cell_s hsh) rfl (by rw [hsh]) h0 hlt h
theorem z_anewn {idx len : Nat} (hd : decode mt.2.1 pc = .ok (.anewarray idx, 3)) (hwl : Cond.classLink mt.1.cls idx "AnswersFirst$Nodes" ∈ zTs) (hsh : zsh (n + 1) = (104, len)) (h0 : ∀ y, M ((n + 1 : Nat) : Int) y = 0) (hlt : n < n1) (h : Z G d mt (pc + 3) ls ((2, ((n + 1 : Nat) : Int)) :: st) (n + 1) n1 M Q) : Z G d mt pc ls ((0, (len : Int)) :: st) n n1 M Q := by
  have hlen : len < 100000 := by have q := zsh_small (n + 1); rw [hsh] at q; exact q
  exact z_anew hd hwl (fun U q => q.2.2.1.2) hlen (z_cell_n hsh) rfl (by rw [hsh]) h0 hlt h
/-- a final reference, in a constructor -/
theorem z_putfinal {a v : Int} {idx ci k len : Nat} (hd : decode mt.2.1 pc = .ok (.putfield idx, 3)) (hg : zgf mt.1.cls idx ci k) (hnest : ∃ (C : String) (T : u_T) (N : Nat), vwCl[ci]? = some (C, T, N) ∧ Cond.fieldLink mt.1.cls idx (T k).1 (T k).2.1 (T k).2.2.1 ∈ zTs) (hs : zsh a.toNat = (ci, len)) (hc : ci < 100 ∧ k < len) (ht : (zfd ci).getD k 0 = 2) (hp : zpr mt.1.cls ci k) (hin2 : mt.1.name = "<init>") (ha : 1 ≤ a ∧ a ≤ n) (hv : 1 ≤ v) (hx : G.2.2.2.2.2.2 a k = 0) (h : Z G d mt (pc + 3) ls st n n1 (zset M a k v) Q) : Z G d mt pc ls ((2, v) :: (2, a) :: st) n n1 M Q := by
  refine z_stm (pc' := pc + 3) (st' := st) (fun o => z_okt (z_okt o)) (fun o => by rw [z_typ_obj hs hc.1, ht]; trivial) hx (fun p e R s m args below meth c H locs c1 s1 lsC QS hx hb hown hnm hZ o hP hS k2 => ?_) h
  obtain ⟨C, T, N, ty, hcl, hkN, hin, hnmX, htyX, hfin, hdecl, hty⟩ := hp
  obtain ⟨C', T', N', hcl', hlk⟩ := hnest
  cases hcl.symm.trans hcl'
  have he := z_ta (G := G) (M := M) ha.1 ha.2
  rw [z_cell_obj hs hc.1, z_cst ha.1] at he
  have hvr : zc G (2, v) = zfv (zB G) 2 v := rfl
  have hval : narrow (ty k) (zfv (zB G) 2 v) = zfv (zB G) 2 v ∧ fits (ty k) (zfv (zB G) 2 v) = true := by
    rw [← hvr, z_rf hv]
    rcases hty with ⟨C', e⟩ | ⟨C', e⟩ <;> rw [e] <;> exact ⟨rfl, rfl⟩
  rw [List.map_cons, List.map_cons, z_rf ha.1, hvr]
  have hset : (zws G n M).set (a - 1).toNat (zB G + (a - 1).toNat, .inr (ci, ((List.range len).map fun j => zfv (zB G) ((zfd ci).getD j 0) (M a j)).set k (zfv (zB G) 2 v))) = zws G n (zset M a k v) := by
    refine z_setR ha.1 ha.2 ?_
    rw [z_cell_obj hs hc.1, z_cst ha.1, ← ht, z_fs_set hc.2]
  exact va_putF hx hb (zS_hts hZ args) hin ty htyX hnmX hown hZ.2.2.2.1 hP (zws_D G n M) hS _ he hcl k hkN (zS_hts hZ args _ hlk) (fun _ h9 => h9) hfin (hnm.trans hin2) hdecl (htyX k hkN) hval.1 hval.2 (by simpa using hc.2) hd (fun H1 locs1 hP1 _ hS1 => k2 H1 locs1 (by rw [← hset]; exact hP1) hS1)
end ZR
