/-! THE START: both objects are there -/
def fH0 : ab_H := tape0 1 ++ tape0 3
def fHs (rs : List (Option Nat)) (t : Nat) : ab_H := fH0 ++ [.inr (.inl rs)] ++ nts 6 t
def fHd : ab_H := fHs [some 6, some 11, some 16] 3 ++ net0 21
def fHr : ab_H := fHd ++ read0 1 21
def fHp : ab_H := fHr ++ past0 27
def fHq : ab_H := fHp ++ sear0 80 21
def fHm : ab_H := fHq ++ [row0 12]
def fHg : ab_H := fHm ++ [row0 66]
theorem i_fair {rom : List (List Int32)} {d : Nat} : ab_M rom (d + 4) 79 [.ref 0] [fob [.null, .null, .null, .null, .null, .null, .null, .null, .null, .int 0, .int 0]] = some (none, fob [.ref 1, .ref 26, .ref 3, .ref 5, .ref 21, .ref 27, .ref 80, .ref 90, .ref 91, .int 0, .int (-1)] :: fHg) := by
  have a1 : ab_X rom (ab_M rom (d + 3)) cX8_init 6 3 4 [.ref 0, .null] [] [fob [.null, .null, .null, .null, .null, .null, .null, .null, .null, .int 0, .int 0]] = ab_X rom (ab_M rom (d + 3)) cX8_init 6 3 15 [.ref 0, .null] [] (fob [.ref 1, .null, .null, .null, .null, .null, .null, .null, .null, .int 0, .int 0] :: tape0 1) := f_s1 (R := []) rfl (by decide)
  have a2 : ab_X rom (ab_M rom (d + 3)) cX8_init 6 3 15 [.ref 0, .null] [] (fob [.ref 1, .null, .null, .null, .null, .null, .null, .null, .null, .int 0, .int 0] :: tape0 1) = ab_X rom (ab_M rom (d + 3)) cX8_init 6 3 26 [.ref 0, .null] [] (fob [.ref 1, .null, .ref 3, .null, .null, .null, .null, .null, .null, .int 0, .int 0] :: fH0) := f_s2 (R := tape0 1) rfl (by decide)
  have a3 : ab_X rom (ab_M rom (d + 3)) cX8_init 6 3 26 [.ref 0, .null] [] (fob [.ref 1, .null, .ref 3, .null, .null, .null, .null, .null, .null, .int 0, .int 0] :: fH0) = ab_X rom (ab_M rom (d + 3)) cX8_init 6 3 36 [.ref 0, .int (qI 0)] [] (fob [.ref 1, .null, .ref 3, .ref 5, .null, .null, .null, .null, .null, .int 0, .int 0] :: fHs [none, none, none] 0) := f_s3 (R := fH0) rfl (by decide)
  have b1 : ab_X rom (ab_M rom (d + 3)) cX8_init 6 3 36 [.ref 0, .int (qI 0)] [] (fob [.ref 1, .null, .ref 3, .ref 5, .null, .null, .null, .null, .null, .int 0, .int 0] :: fHs [none, none, none] 0) = ab_X rom (ab_M rom (d + 3)) cX8_init 6 3 36 [.ref 0, .int (qI 1)] [] (fob [.ref 1, .null, .ref 3, .ref 5, .null, .null, .null, .null, .null, .int 0, .int 0] :: fHs [some 6, none, none] 1) := slot_it (d := d + 2) (i := 0) (b := 5) (rs := [none, none, none]) (fs := [.ref 1, .null, .ref 3, .ref 5, .null, .null, .null, .null, .null, .int 0, .int 0]) rfl rfl rfl (by decide) (by decide) (by decide) (by decide)
  have b2 : ab_X rom (ab_M rom (d + 3)) cX8_init 6 3 36 [.ref 0, .int (qI 1)] [] (fob [.ref 1, .null, .ref 3, .ref 5, .null, .null, .null, .null, .null, .int 0, .int 0] :: fHs [some 6, none, none] 1) = ab_X rom (ab_M rom (d + 3)) cX8_init 6 3 36 [.ref 0, .int (qI 2)] [] (fob [.ref 1, .null, .ref 3, .ref 5, .null, .null, .null, .null, .null, .int 0, .int 0] :: fHs [some 6, some 11, none] 2) := slot_it (d := d + 2) (i := 1) (b := 5) (rs := [some 6, none, none]) (fs := [.ref 1, .null, .ref 3, .ref 5, .null, .null, .null, .null, .null, .int 0, .int 0]) rfl rfl rfl (by decide) (by decide) (by decide) (by decide)
  have b3 : ab_X rom (ab_M rom (d + 3)) cX8_init 6 3 36 [.ref 0, .int (qI 2)] [] (fob [.ref 1, .null, .ref 3, .ref 5, .null, .null, .null, .null, .null, .int 0, .int 0] :: fHs [some 6, some 11, none] 2) = ab_X rom (ab_M rom (d + 3)) cX8_init 6 3 36 [.ref 0, .int (qI 3)] [] (fob [.ref 1, .null, .ref 3, .ref 5, .null, .null, .null, .null, .null, .int 0, .int 0] :: fHs [some 6, some 11, some 16] 3) := slot_it (d := d + 2) (i := 2) (b := 5) (rs := [some 6, some 11, none]) (fs := [.ref 1, .null, .ref 3, .ref 5, .null, .null, .null, .null, .null, .int 0, .int 0]) rfl rfl rfl (by decide) (by decide) (by decide) (by decide)
  have a5 : ab_X rom (ab_M rom (d + 3)) cX8_init 6 3 36 [.ref 0, .int (qI 3)] [] (fob [.ref 1, .null, .ref 3, .ref 5, .null, .null, .null, .null, .null, .int 0, .int 0] :: fHs [some 6, some 11, some 16] 3) = ab_X rom (ab_M rom (d + 3)) cX8_init 6 3 71 [.ref 0, .int (qI 3)] [] (fob [.ref 1, .null, .ref 3, .ref 5, .ref 21, .null, .null, .null, .null, .int 0, .int 0] :: fHd) := f_s5 (R := fHs [some 6, some 11, some 16] 3) rfl (by decide)
  have a6 : ab_X rom (ab_M rom (d + 3)) cX8_init 6 3 71 [.ref 0, .int (qI 3)] [] (fob [.ref 1, .null, .ref 3, .ref 5, .ref 21, .null, .null, .null, .null, .int 0, .int 0] :: fHd) = ab_X rom (ab_M rom (d + 3)) cX8_init 6 3 90 [.ref 0, .int (qI 3)] [] (fob [.ref 1, .ref 26, .ref 3, .ref 5, .ref 21, .null, .null, .null, .null, .int 0, .int 0] :: fHr) := f_s6 (R := fHd) rfl rfl rfl (by decide)
  have a7 : ab_X rom (ab_M rom (d + 3)) cX8_init 6 3 90 [.ref 0, .int (qI 3)] [] (fob [.ref 1, .ref 26, .ref 3, .ref 5, .ref 21, .null, .null, .null, .null, .int 0, .int 0] :: fHr) = ab_X rom (ab_M rom (d + 3)) cX8_init 6 3 101 [.ref 0, .int (qI 3)] [] (fob [.ref 1, .ref 26, .ref 3, .ref 5, .ref 21, .ref 27, .null, .null, .null, .int 0, .int 0] :: fHp) := f_s7 (R := fHr) rfl (by decide)
  have a8 : ab_X rom (ab_M rom (d + 3)) cX8_init 6 3 101 [.ref 0, .int (qI 3)] [] (fob [.ref 1, .ref 26, .ref 3, .ref 5, .ref 21, .ref 27, .null, .null, .null, .int 0, .int 0] :: fHp) = ab_X rom (ab_M rom (d + 3)) cX8_init 6 3 116 [.ref 0, .int (qI 3)] [] (fob [.ref 1, .ref 26, .ref 3, .ref 5, .ref 21, .ref 27, .ref 80, .null, .null, .int 0, .int 0] :: fHq) := f_s8 (R := fHp) rfl rfl (by decide)
  have a9 : ab_X rom (ab_M rom (d + 3)) cX8_init 6 3 116 [.ref 0, .int (qI 3)] [] (fob [.ref 1, .ref 26, .ref 3, .ref 5, .ref 21, .ref 27, .ref 80, .null, .null, .int 0, .int 0] :: fHq) = ab_X rom (ab_M rom (d + 3)) cX8_init 6 3 124 [.ref 0, .int (qI 3)] [] (fob [.ref 1, .ref 26, .ref 3, .ref 5, .ref 21, .ref 27, .ref 80, .ref 90, .null, .int 0, .int 0] :: fHm) := f_s9 (R := fHq) rfl (by decide)
  have a10 : ab_X rom (ab_M rom (d + 3)) cX8_init 6 3 124 [.ref 0, .int (qI 3)] [] (fob [.ref 1, .ref 26, .ref 3, .ref 5, .ref 21, .ref 27, .ref 80, .ref 90, .null, .int 0, .int 0] :: fHm) = ab_X rom (ab_M rom (d + 3)) cX8_init 6 3 132 [.ref 0, .int (qI 3)] [] (fob [.ref 1, .ref 26, .ref 3, .ref 5, .ref 21, .ref 27, .ref 80, .ref 90, .ref 91, .int 0, .int 0] :: fHg) := f_s10 (R := fHm) rfl (by decide)
  have a11 : ab_X rom (ab_M rom (d + 3)) cX8_init 6 3 132 [.ref 0, .int (qI 3)] [] (fob [.ref 1, .ref 26, .ref 3, .ref 5, .ref 21, .ref 27, .ref 80, .ref 90, .ref 91, .int 0, .int 0] :: fHg) = some (none, fob [.ref 1, .ref 26, .ref 3, .ref 5, .ref 21, .ref 27, .ref 80, .ref 90, .ref 91, .int 0, .int (-1)] :: fHg) := f_s11 (R := fHg) rfl
  rw [mX8_init]
  simp only [sX8_init_0, sX8_init_1_0, sX8_init_1_1, sX8_init_1_2, sX8_init_1_3]
  exact (a1.trans (a2.trans a3)).trans ((b1.trans (b2.trans b3)).trans ((a5.trans (a6.trans a7)).trans ((a8.trans (a9.trans a10)).trans a11)))
def N0 : NR := NR.mk 0 0 (fun _ => 0) (fun _ => 0) (fun _ => 0) (fun _ => qI 0)
def c0 : Cl := Cl.mk (fun _ => N0) (Tp.mk (fun _ => 0) 0) (Tp.mk (fun _ => 0) 0) (Rd.mk 0 (-1) 0 0 0 0) (Pa.mk 0 0 (fun _ => 0)) (Se.mk (fun _ => 0) (fun _ => 0) (fun _ => 0) (fun _ => 0) 3 0 0 0 0 (qI 0) 0 false false false) (Ce.mk 0 (fun _ => qI 0) (-1) (fun _ => 0) false (fun _ => 0) (fun _ => 0)) (fun _ => 0) (fun _ => 0) 0 (-1)
def r0 : Rf := Rf.mk (fun _ => qI 0) (fun _ => qI 0) (fun _ => qI 0) 0 (Tp.mk (fun _ => 0) 0) (Ps.mk 0 (-1) 0 0 0 0 false) (Ln.mk (fun _ => 0) (fun _ => 0) 0) (Lb.mk (fun _ => 0) 0 false) (Sk.mk (fun _ => 0) (fun _ => qI 0) 0 0 0) (fun _ => qI 0) (fun _ => 0) (fun _ => false) (Tp.mk (fun _ => 0) 0)
theorem row0_zr (n : Nat) : row0 n = .inl (0, zr n (fun _ => qI 0)) := by
  unfold row0
  rw [← zr_const]
  rfl
theorem rowb_zr : (.inl (1, List.replicate 256 0) : ab_C) = .inl (1, zr 256 (fun _ => qB false)) := by
  rw [← zr_const]
  rfl
theorem HH0 : fob [.ref 1, .ref 26, .ref 3, .ref 5, .ref 21, .ref 27, .ref 80, .ref 90, .ref 91, .int 0, .int (-1)] :: fHg ++ mod0 92 = HH c0 r0 [] := by
  unfold fHg fHm fHq fHp fHr fHd fHs fH0 tape0 mod0 sear0 cens0 past0 read0 nts nts nts nts net0 pob
  rw [rowb_zr]
  simp only [row0_zr]
  rfl
theorem N0_ok : GN N0 := ⟨⟨by decide, by decide, by decide, by decide, fun _ => (by show (-1 : Int) ≤ 0 ∧ (0 : Int) ≤ 99; decide), fun _ => (by show (0 : Int) ≤ 0 ∧ (0 : Int) ≤ 6; decide), fun _ => (by show (0 : Int) ≤ 0 ∧ (0 : Int) ≤ 6; decide)⟩, fun i i0 i1 => absurd i1 (by show ¬ i < 0; omega), fun i k i0 ik k1 => absurd k1 (by show ¬ k < 0; omega), fun a b _ _ _ _ => ⟨fun h => (by
  have h2 : bi (qI 0) b = true := h
  rw [bi_q0] at h2
  cases h2), fun ⟨i, i0, i1, _⟩ => absurd i1 (by show ¬ i < 0; omega)⟩, fun p h => absurd h (by decide)⟩
theorem Inv0 : Inv c0 r0 := ⟨fun _ _ => N0_ok.w, fun _ _ => N0_ok, fun s hs => ⟨rfl, fun _ _ _ => rfl, fun _ _ _ => rfl⟩, by decide, by decide, rfl, fun k hk => absurd hk (by show ¬ (k : Int) < 0; omega), ⟨rfl, by decide, by decide, fun i i0 i1 => absurd i1 (by show ¬ i < 0; omega)⟩, ⟨rfl, by decide, by decide, fun i i0 i1 => absurd i1 (by show ¬ i < 0; omega)⟩, rfl, rfl, by decide⟩
