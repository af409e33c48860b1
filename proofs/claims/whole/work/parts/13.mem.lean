theorem zsh_small (o : Nat) : (zsh o).2 < 100000 := by
  unfold zsh
  rw [List.getD_eq_getElem?_getD]
  cases h : zshL[o]? with
  | none => decide
  | some q => exact (by decide +kernel : ∀ q ∈ zshL, q.2 < 100000) q (List.mem_of_getElem? h)
theorem z_cell_obj {G : zG} {M : zM} {o ci len : Nat} (hs : zsh o = (ci, len)) (hc : ci < 100) : zcell G M o = .inr (ci, (List.range len).map fun k => zfv (zB G) ((zfd ci).getD k 0) (M o k)) := by
  unfold zcell
  rw [hs, if_neg (show ¬ ci = 100 by omega), if_neg (show ¬ ci = 101 by omega), if_neg (show ¬ ci = 102 by omega), if_neg (show ¬ ci = 103 by omega), if_neg (show ¬ ci = 104 by omega)]
theorem z_cell_i {G : zG} {M : zM} {o len : Nat} (hs : zsh o = (100, len)) : zcell G M o = .inl (G.2.2.1 0, len, .inl fun k => Int32.ofInt (M o k)) := by
  unfold zcell; rw [hs]; rfl
theorem z_cell_l {G : zG} {M : zM} {o len : Nat} (hs : zsh o = (101, len)) : zcell G M o = .inl (G.2.2.1 1, len, .inr (.inl fun k => Int64.ofInt (M o k))) := by
  unfold zcell; rw [hs]; rfl
theorem z_cell_z {G : zG} {M : zM} {o len : Nat} (hs : zsh o = (102, len)) : zcell G M o = .inl (G.2.2.1 2, len, .inl fun k => Int32.ofInt (M o k)) := by
  unfold zcell; rw [hs]; rfl
theorem z_cell_s {G : zG} {M : zM} {o len : Nat} (hs : zsh o = (103, len)) : zcell G M o = .inl (G.2.2.1 3, len, .inr (.inr (.inr (.inr fun k => zopt (zB G) (M o k))))) := by
  unfold zcell; rw [hs]; rfl
theorem z_cell_n {G : zG} {M : zM} {o len : Nat} (hs : zsh o = (104, len)) : zcell G M o = .inl (G.2.2.1 4, len, .inr (.inr (.inr (.inr fun k => zopt (zB G) (M o k))))) := by
  unfold zcell; rw [hs]; rfl
theorem z_typ_obj {a : Int} {k ci len : Nat} (hs : zsh a.toNat = (ci, len)) (hc : ci < 100) : ztyp a k = (zfd ci).getD k 0 := by
  unfold ztyp
  rw [hs, if_neg (show ¬ ci = 100 by omega), if_neg (show ¬ ci = 101 by omega), if_neg (show ¬ ci = 102 by omega), if_neg (show ¬ ci = 103 by omega), if_neg (show ¬ ci = 104 by omega)]
  rfl
theorem z_ta {G : zG} {n : Nat} {M : zM} {a : Int} (h1 : 1 ≤ a) (h2 : a ≤ n) : (zws G n M)[(a - 1).toNat]? = some (zB G + (a - 1).toNat, zcell G M a.toNat) := by
  rw [zws_get (by omega), show (a - 1).toNat + 1 = a.toNat by omega]
theorem z_rf {G : zG} {a : Int} (h1 : 1 ≤ a) : zc G (2, a) = .ref (zB G + (a - 1).toNat) := by
  show zref _ a = _
  unfold zref; rw [if_neg (by omega)]
theorem z_cst {a : Int} (h1 : 1 ≤ a) : (a.toNat : Int) = a := Int.toNat_of_nonneg (by omega)
theorem z_clp {i : Int} (h0 : 0 ≤ i) (h1 : i < 100000) : (Int32.ofInt i).toNatClampNeg = i.toNat := by
  show (Int32.ofInt i).toInt.toNat = i.toNat
  rw [z_ti ⟨by omega, by omega⟩]
theorem z_vin {i : Int} {len : Nat} (h0 : 0 ≤ i) (h1 : i < len) (hl : len < 100000) : vp_in (Int32.ofInt i) len := by
  rw [vp_in_iff, z_ti ⟨by omega, by omega⟩]
  exact ⟨h0, h1⟩
def zft (t : Nat) : Nat := match t with
  | 3 => 0
  | t => t
theorem z_setR {G : zG} {M : zM} {n : Nat} {a i v : Int} {e : va_E} (h1 : 1 ≤ a) (h2 : a ≤ n) (he : zcell G (zset M a i v) a.toNat = e) : (zws G n M).set (a - 1).toNat (zB G + (a - 1).toNat, e) = zws G n (zset M a i v) :=
  zws_set (by omega) (by rw [show (a - 1).toNat + 1 = a.toNat by omega]; exact he) (fun o _ ho => zcell_off (by omega))
theorem z_okset {M : zM} {a i v : Int} (h : zokM M) (hv : zin (ztyp a i) v) : zokM (zset M a i v) := by
  intro x y
  unfold zset
  split
  · rename_i e
    rw [e.1, e.2]; exact hv
  · exact h x y
theorem z_fixset {G : zG} {M : zM} {a i v : Int} (h : zfix G M) (hv : G.2.2.2.2.2.2 a i = 0) : zfix G (zset M a i v) := by
  intro x y hxy
  unfold zset
  split
  · rename_i e
    rw [e.1, e.2] at hxy; exact absurd hv hxy
  · exact h x y hxy
section ZR
variable {G : zG} {d : Nat} {mt : zMt} {pc : Nat} {ls st : List zV} {n n1 : Nat} {M : zM} {Q : zV → zM → Prop}
theorem z_getfield {a : Int} {idx ci k len t : Nat} (hd : decode mt.2.1 pc = .ok (.getfield idx, 3)) (hg : zgf mt.1.cls idx ci k) (hs : zsh a.toNat = (ci, len)) (hc : ci < 100 ∧ k < len) (ht : zft ((zfd ci).getD k 0) = t) (ha : 1 ≤ a ∧ a ≤ n) (h : Z G d mt (pc + 3) ls ((t, M a k) :: st) n n1 M Q) : Z G d mt pc ls ((2, a) :: st) n n1 M Q := by
  intro oM oF oL oS p e R s m args below meth c H locs c1 s1 lsC QS X hS hr hl hll hz hn hc1 hs1 hE
  have hok : zin t (M a k) := by
    have := oM a k
    subst ht
    have e1 : ztyp a k = (zfd ci).getD k 0 := z_typ_obj hs hc.1
    rw [e1] at this
    unfold zft
    split
    · rename_i e2
      rw [e2] at this
      obtain ⟨q1, q2⟩ : 0 ≤ M a k ∧ M a k ≤ 1 := this
      exact ⟨by omega, by omega⟩
    · exact this
  have hW := h oM oF oL (z_okc hok (z_okt oS)) p e R s m args below meth c H locs c1 s1 lsC QS X hS hr hl hll hz hn hc1 hs1 hE
  obtain ⟨hx, hb, hml, hown, hZ, -⟩ := X
  rw [List.map_cons, z_rf ha.1]
  rw [List.map_cons] at hW
  have he := z_ta (G := G) (M := M) ha.1 ha.2
  rw [z_cell_obj hs hc.1] at he
  have hv : ((List.range len).map fun k => zfv (zB G) ((zfd ci).getD k 0) (M (a.toNat : Int) k))[k]? = some (zc G (t, M a k)) := by
    rw [List.getElem?_map, List.getElem?_range hc.2, z_cst ha.1]
    subst ht
    show some (zfv _ _ _) = _
    congr 1
    unfold zfv zft
    split
    · rename_i e; rw [e]; rfl
    · rename_i e; rw [e]; rfl
    · rename_i e1 e2
      split
      · rfl
      · rename_i e3
        have : ∀ q, (zfd ci).getD k 0 = q → q = 0 ∨ q = 1 ∨ q = 2 ∨ q = 3 := by
          intro q hq
          have hall : ∀ l ∈ zfdL, ∀ x ∈ l, x = 0 ∨ x = 1 ∨ x = 2 ∨ x = 3 := by decide +kernel
          unfold zfd at hq
          rw [List.getD_eq_getElem?_getD] at hq
          cases hz : (zfdL.getD ci [])[k]? with
          | none => rw [hz] at hq; left; exact hq.symm
          | some x =>
            rw [hz] at hq
            have hx1 := List.mem_of_getElem? hz
            rw [List.getD_eq_getElem?_getD] at hx1
            cases hy : zfdL[ci]? with
            | none => rw [hy] at hx1; simp at hx1
            | some l =>
              rw [hy] at hx1
              have := hall l (List.mem_of_getElem? hy) x hx1
              simp only [Option.getD_some] at hq
              subst hq; exact this
        rcases this _ rfl with q | q | q | q
        · rw [q]; rfl
        · exact absurd q e1
        · exact absurd q e2
        · exact absurd q e3
  obtain ⟨C, T, N, hcl, hkN, hlk, hin⟩ := hg
  rcases hlk with hlk | ⟨host, hlk⟩
  · exact va_get hx hb (zS_hts hZ args) hin hown hZ.2.2.2.1 hr _ he hcl k hkN (zS_hts hZ args _ hlk) (fun _ h9 => h9) hv hd hW
  · exact va_getN hx hb (zS_hts hZ args) hin hown hZ.2.2.2.1 hr _ he hcl k hkN (zS_nw hZ args hlk) (fun _ h9 => h9) hv hd hW
/-- a reference that is fixed -/
theorem z_getref {a v : Int} {idx ci k len : Nat} (hd : decode mt.2.1 pc = .ok (.getfield idx, 3)) (hg : zgf mt.1.cls idx ci k) (hs : zsh a.toNat = (ci, len)) (hc : ci < 100 ∧ k < len) (ht : zft ((zfd ci).getD k 0) = 2) (ha : 1 ≤ a ∧ a ≤ n) (hv : G.2.2.2.2.2.2 a k = v) (hv0 : v ≠ 0) (h : Z G d mt (pc + 3) ls ((2, v) :: st) n n1 M Q) : Z G d mt pc ls ((2, a) :: st) n n1 M Q :=
  z_facts fun _ oF _ _ => z_getfield hd hg hs hc ht ha (by rw [oF a k (by rw [hv]; exact hv0), hv]; exact h)
end ZR
