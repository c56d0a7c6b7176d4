/-! THE HEAP AS TWO RECORDS (printed by wip/whole/gen_state.py) -/
def zr (n : Nat) (f : Int → Int32) : List Int32 := (List.range n).map (fun (k : Nat) => f (k : Int))
def zu {α : Type} (f : Int → α) (i : Int) (v : α) : Int → α := fun j => if j = i then v else f j
def zn {α : Type} (f : Nat → α) (i : Nat) (v : α) : Nat → α := fun j => if j = i then v else f j
theorem zr_len (n : Nat) (f : Int → Int32) : (zr n f).length = n := by unfold zr; rw [List.length_map, List.length_range]
theorem zr_get {n k : Nat} (f : Int → Int32) (h : k < n) : (zr n f)[k]? = some (f (k : Int)) := by
  unfold zr
  rw [List.getElem?_map, List.getElem?_range h]
  rfl
theorem zr_set {n k : Nat} (f : Int → Int32) (v : Int32) (h : k < n) : (zr n f).set k v = zr n (zu f (k : Int) v) := by
  apply List.ext_getElem?
  intro i
  by_cases hi : i < n
  · rw [List.getElem?_set, zr_get _ hi, zr_get _ hi, zr_len]
    unfold zu
    by_cases e : k = i
    · subst e
      rw [if_pos rfl, if_pos h, if_pos rfl]
    · rw [if_neg e, if_neg (by omega)]
  · rw [List.getElem?_eq_none (by rw [List.length_set, zr_len]; omega), List.getElem?_eq_none (by rw [zr_len]; omega)]
theorem zr_const (n : Nat) (v : Int32) : List.replicate n v = zr n (fun _ => v) := by
  unfold zr
  rw [List.map_const', List.length_range]
theorem zu_qI (f : Int → Int) (i v : Int) : zu (fun k => qI (f k)) i (qI v) = fun k => qI (zu f i v k) := by
  funext j
  unfold zu
  by_cases h : j = i
  · rw [if_pos h, if_pos h]
  · rw [if_neg h, if_neg h]
theorem zu_qB (f : Int → Bool) (i : Int) (v : Bool) : zu (fun k => qB (f k)) i (qB v) = fun k => qB (zu f i v k) := by
  funext j
  unfold zu
  by_cases h : j = i
  · rw [if_pos h, if_pos h]
  · rw [if_neg h, if_neg h]
theorem zu_S (f : Int → Int32) (i : Int) (v : Int32) : zu (fun k => f k) i v = fun k => zu f i v k := rfl
theorem zu_same {α : Type} (f : Int → α) (i : Int) (v : α) : zu f i v i = v := if_pos rfl
theorem zu_ne {α : Type} (f : Int → α) {i j : Int} (v : α) (h : j ≠ i) : zu f i v j = f j := if_neg h
theorem zn_same {α : Type} (f : Nat → α) (i : Nat) (v : α) : zn f i v i = v := if_pos rfl
theorem zn_ne {α : Type} (f : Nat → α) {i j : Nat} (v : α) (h : j ≠ i) : zn f i v j = f j := if_neg h
theorem zu_zu {α : Type} (f : Int → α) (i : Int) (v u : α) : zu (zu f i v) i u = zu f i u := by
  funext j
  unfold zu
  by_cases h : j = i
  · rw [if_pos h, if_pos h]
  · rw [if_neg h, if_neg h, if_neg h]
theorem zn_zn {α : Type} (f : Nat → α) (i : Nat) (v u : α) : zn (zn f i v) i u = zn f i u := by
  funext j
  unfold zn
  by_cases h : j = i
  · rw [if_pos h, if_pos h]
  · rw [if_neg h, if_neg h, if_neg h]
theorem zu_id {α : Type} (f : Int → α) (i : Int) : zu f i (f i) = f := by
  funext j
  unfold zu
  by_cases h : j = i
  · rw [if_pos h, h]
  · rw [if_neg h]
theorem zn_id {α : Type} (f : Nat → α) (i : Nat) : zn f i (f i) = f := by
  funext j
  unfold zn
  by_cases h : j = i
  · rw [if_pos h, h]
  · rw [if_neg h]
theorem zx_rd {rom : List (List Int32)} {hp : ab_H} {t a n : Nat} {f : Int → Int32} {i : Int} (h : hp[a]? = some (.inl (t, zr n f))) (hn : n ≤ 1000) (h0 : 0 ≤ i) (h1 : i < n) : ab_ard rom t hp a (qI i) = some (f i) := by
  rw [ab_ard_at h h0 (by omega), zr_get _ (by omega), Int.toNat_of_nonneg h0]
theorem zx_wr {hp : ab_H} {t a n : Nat} {f : Int → Int32} {i : Int} {v : Int32} (h : hp[a]? = some (.inl (t, zr n f))) (hn : n ≤ 1000) (h0 : 0 ≤ i) (h1 : i < n) : ab_awr t hp a (qI i) v = some (hp.set a (.inl (t, zr n (zu f i v)))) := by
  rw [ab_awr_at h h0 (by rw [zr_len]; omega) (by omega), zr_set _ _ (by omega), Int.toNat_of_nonneg h0]
theorem zx_ln {rom : List (List Int32)} {hp : ab_H} {a n : Nat} {f : Int → Int32} (h : hp[a]? = some (.inl (0, zr n f))) : ab_aln rom hp a = some (qI n) := by
  rw [ab_aln_at h, zr_len]
structure NR where
  n : Int
  m : Int
  lo : Int → Int
  hi : Int → Int
  lab : Int → Int
  bes : Int → Int32
structure Tp where
  B : Int → Int
  L : Int
structure Rd where
  fn : Int
  fp : Int
  nx : Int
  st : Int
  tk : Int
  vl : Int
structure Pa where
  acts : Int
  new : Int
  sl : Int → Int
structure Se where
  lab : Int → Int
  uses : Int → Int
  ord : Int → Int
  shi : Int → Int
  net : Nat
  kind : Int
  top : Int
  rep : Int
  all : Int
  wor : Int32
  many : Int
  any : Bool
  one : Bool
  stop : Bool
structure Ce where
  found : Int
  ats : Int → Int32
  wat : Int
  tal : Int → Int
  cmp : Bool
  tar : Int → Int
  agr : Int → Int
structure Cl where
  net : Nat → NR
  tp : Tp
  ou : Tp
  rd : Rd
  pa : Pa
  se : Se
  ce : Ce
  mks : Int → Int
  ga : Int → Int
  fn : Int
  fp : Int
structure Ps where
  fk : Int
  fp : Int
  spot : Int
  beg : Int
  tok : Int
  val : Int
  bad : Bool
structure Ln where
  A : Int → Int
  B : Int → Int
  many : Int
structure Lb where
  lab : Int → Int
  n : Int
  tree : Bool
structure Sk where
  want : Int → Int
  hav : Int → Int32
  found : Int
  ends : Int
  unl : Int
structure Rf where
  row : Int → Int32
  was : Int → Int32
  kept : Int → Int32
  km : Int
  tp : Tp
  ps : Ps
  ln : Ln
  lb : Lb
  sk : Sk
  made : Int → Int32
  num : Int → Int
  seen : Int → Bool
  ou : Tp
/-- the place of a net: 0..2 slots, 3 draft, 4..13 the past -/
def pl (j : Nat) : Nat := if j < 4 then 6 + 5 * j else 10 + 5 * j
def nobj (b : Nat) (N : NR) : ab_C := .inr (.inr (1, [.int (qI N.n), .int (qI N.m), .ref (b + 1), .ref (b + 2), .ref (b + 3), .ref (b + 4)]))
def nlo (N : NR) : ab_C := .inl (0, zr 10 (fun k => qI (N.lo k)))
def nhi (N : NR) : ab_C := .inl (0, zr 10 (fun k => qI (N.hi k)))
def nlab (N : NR) : ab_C := .inl (0, zr 7 (fun k => qI (N.lab k)))
def nbes (N : NR) : ab_C := .inl (0, zr 7 (fun k => N.bes k))
def HH (c : Cl) (r : Rf) (g : ab_H) : ab_H := [.inr (.inr (6, [.ref 1, .ref 26, .ref 3, .ref 5, .ref (pl 3), .ref 27, .ref 80, .ref 90, .ref 91, .int (qI (c.fn)), .int (qI (c.fp))])),
  .inr (.inr (5, [.ref 2, .int (qI (c.tp.L))])),
  .inl (0, zr 400 (fun k => qI (c.tp.B k))),
  .inr (.inr (5, [.ref 4, .int (qI (c.ou.L))])),
  .inl (0, zr 400 (fun k => qI (c.ou.B k))),
  .inr (.inl [some (pl 0), some (pl 1), some (pl 2)]),
  nobj 6 (c.net 0),
  nlo (c.net 0),
  nhi (c.net 0),
  nlab (c.net 0),
  nbes (c.net 0),
  nobj 11 (c.net 1),
  nlo (c.net 1),
  nhi (c.net 1),
  nlab (c.net 1),
  nbes (c.net 1),
  nobj 16 (c.net 2),
  nlo (c.net 2),
  nhi (c.net 2),
  nlab (c.net 2),
  nbes (c.net 2),
  nobj 21 (c.net 3),
  nlo (c.net 3),
  nhi (c.net 3),
  nlab (c.net 3),
  nbes (c.net 3),
  .inr (.inr (3, [.int (qI (c.rd.fn)), .int (qI (c.rd.fp)), .ref 1, .ref (pl 3), .int (qI (c.rd.nx)), .int (qI (c.rd.st)), .int (qI (c.rd.tk)), .int (qI (c.rd.vl))])),
  .inr (.inr (2, [.int (qI (c.pa.acts)), .int (qI (c.pa.new)), .ref 28, .ref 29])),
  .inr (.inl [some (pl 4), some (pl 5), some (pl 6), some (pl 7), some (pl 8), some (pl 9), some (pl 10), some (pl 11), some (pl 12), some (pl 13)]),
  .inl (0, zr 10 (fun k => qI (c.pa.sl k))),
  nobj 30 (c.net 4),
  nlo (c.net 4),
  nhi (c.net 4),
  nlab (c.net 4),
  nbes (c.net 4),
  nobj 35 (c.net 5),
  nlo (c.net 5),
  nhi (c.net 5),
  nlab (c.net 5),
  nbes (c.net 5),
  nobj 40 (c.net 6),
  nlo (c.net 6),
  nhi (c.net 6),
  nlab (c.net 6),
  nbes (c.net 6),
  nobj 45 (c.net 7),
  nlo (c.net 7),
  nhi (c.net 7),
  nlab (c.net 7),
  nbes (c.net 7),
  nobj 50 (c.net 8),
  nlo (c.net 8),
  nhi (c.net 8),
  nlab (c.net 8),
  nbes (c.net 8),
  nobj 55 (c.net 9),
  nlo (c.net 9),
  nhi (c.net 9),
  nlab (c.net 9),
  nbes (c.net 9),
  nobj 60 (c.net 10),
  nlo (c.net 10),
  nhi (c.net 10),
  nlab (c.net 10),
  nbes (c.net 10),
  nobj 65 (c.net 11),
  nlo (c.net 11),
  nhi (c.net 11),
  nlab (c.net 11),
  nbes (c.net 11),
  nobj 70 (c.net 12),
  nlo (c.net 12),
  nhi (c.net 12),
  nlab (c.net 12),
  nbes (c.net 12),
  nobj 75 (c.net 13),
  nlo (c.net 13),
  nhi (c.net 13),
  nlab (c.net 13),
  nbes (c.net 13),
  .inr (.inr (4, [.ref 81, .ref 86, .ref 87, .ref 88, .ref 89, .ref (pl c.se.net), .int (qI (c.se.kind)), .int (qI (c.se.top)), .int (qI (c.se.rep)), .int (qI (c.se.all)), .int (c.se.wor), .int (qI (c.se.many)), .int (qB (c.se.any)), .int (qB (c.se.one)), .int (qB (c.se.stop))])),
  .inr (.inr (0, [.int (qI (c.ce.found)), .ref 82, .int (qI (c.ce.wat)), .ref 83, .int (qB (c.ce.cmp)), .ref 84, .ref 85])),
  .inl (0, zr 7 (fun k => c.ce.ats k)),
  .inl (0, zr 21 (fun k => qI (c.ce.tal k))),
  .inl (0, zr 7 (fun k => qI (c.ce.tar k))),
  .inl (0, zr 128 (fun k => qI (c.ce.agr k))),
  .inl (0, zr 7 (fun k => qI (c.se.lab k))),
  .inl (0, zr 21 (fun k => qI (c.se.uses k))),
  .inl (0, zr 7 (fun k => qI (c.se.ord k))),
  .inl (0, zr 7 (fun k => qI (c.se.shi k))),
  .inl (0, zr 12 (fun k => qI (c.mks k))),
  .inl (0, zr 66 (fun k => qI (c.ga k))),
  .inr (.inr (7, [.ref 93, .ref 94, .ref 95, .int (qI (r.km)), .ref 96, .int (qI (r.tp.L)), .int (qI (r.ps.fk)), .int (qI (r.ps.fp)), .int (qI (r.ps.spot)), .int (qI (r.ps.beg)), .int (qI (r.ps.tok)), .int (qI (r.ps.val)), .int (qB (r.ps.bad)), .ref 97, .ref 98, .int (qI (r.ln.many)), .ref 99, .int (qI (r.lb.n)), .int (qB (r.lb.tree)), .ref 100, .ref 101, .int (qI (r.sk.found)), .int (qI (r.sk.ends)), .int (qI (r.sk.unl)), .ref 102, .ref 103, .ref 104, .ref 105, .int (qI (r.ou.L))])),
  .inl (0, zr 45 (fun k => r.row k)),
  .inl (0, zr 45 (fun k => r.was k)),
  .inl (0, zr 450 (fun k => r.kept k)),
  .inl (0, zr 400 (fun k => qI (r.tp.B k))),
  .inl (0, zr 11 (fun k => qI (r.ln.A k))),
  .inl (0, zr 11 (fun k => qI (r.ln.B k))),
  .inl (0, zr 7 (fun k => qI (r.lb.lab k))),
  .inl (0, zr 7 (fun k => qI (r.sk.want k))),
  .inl (0, zr 7 (fun k => r.sk.hav k)),
  .inl (0, zr 15 (fun k => r.made k)),
  .inl (0, zr 12 (fun k => qI (r.num k))),
  .inl (1, zr 256 (fun k => qB (r.seen k))),
  .inl (0, zr 120 (fun k => qI (r.ou.B k)))] ++ g
section
variable {rom : List (List Int32)} {c : Cl} {r : Rf} {g : ab_H} {i v : Int} {u : Int32} {b : Bool} {j : Nat}
theorem hc_0 : (HH c r g)[0]? = some (.inr (.inr (6, [.ref 1, .ref 26, .ref 3, .ref 5, .ref (pl 3), .ref 27, .ref 80, .ref 90, .ref 91, .int (qI (c.fn)), .int (qI (c.fp))]))) := rfl
theorem hi_0 : ab_iso (HH c r g) 0 6 = true := ab_iso_at hc_0
theorem hf_0_0 : ab_fld (HH c r g) 0 6 0 = some (.ref 1) := (ab_fld_at hc_0).trans rfl
theorem hf_0_1 : ab_fld (HH c r g) 0 6 1 = some (.ref 26) := (ab_fld_at hc_0).trans rfl
theorem hf_0_2 : ab_fld (HH c r g) 0 6 2 = some (.ref 3) := (ab_fld_at hc_0).trans rfl
theorem hf_0_3 : ab_fld (HH c r g) 0 6 3 = some (.ref 5) := (ab_fld_at hc_0).trans rfl
theorem hf_0_4 : ab_fld (HH c r g) 0 6 4 = some (.ref (pl 3)) := (ab_fld_at hc_0).trans rfl
theorem hf_0_5 : ab_fld (HH c r g) 0 6 5 = some (.ref 27) := (ab_fld_at hc_0).trans rfl
theorem hf_0_6 : ab_fld (HH c r g) 0 6 6 = some (.ref 80) := (ab_fld_at hc_0).trans rfl
theorem hf_0_7 : ab_fld (HH c r g) 0 6 7 = some (.ref 90) := (ab_fld_at hc_0).trans rfl
theorem hf_0_8 : ab_fld (HH c r g) 0 6 8 = some (.ref 91) := (ab_fld_at hc_0).trans rfl
theorem hf_0_9 : ab_fld (HH c r g) 0 6 9 = some (.int (qI (c.fn))) := (ab_fld_at hc_0).trans rfl
theorem hp_0_9 : ab_fpt (HH c r g) 0 6 9 (.int (qI (v))) = some (HH { c with fn := v } r g) := (ab_fpt_at hc_0 (Nat.le_of_ble_eq_true rfl)).trans rfl
theorem hf_0_10 : ab_fld (HH c r g) 0 6 10 = some (.int (qI (c.fp))) := (ab_fld_at hc_0).trans rfl
theorem hp_0_10 : ab_fpt (HH c r g) 0 6 10 (.int (qI (v))) = some (HH { c with fp := v } r g) := (ab_fpt_at hc_0 (Nat.le_of_ble_eq_true rfl)).trans rfl
theorem hc_1 : (HH c r g)[1]? = some (.inr (.inr (5, [.ref 2, .int (qI (c.tp.L))]))) := rfl
theorem hi_1 : ab_iso (HH c r g) 1 5 = true := ab_iso_at hc_1
theorem hf_1_0 : ab_fld (HH c r g) 1 5 0 = some (.ref 2) := (ab_fld_at hc_1).trans rfl
theorem hf_1_1 : ab_fld (HH c r g) 1 5 1 = some (.int (qI (c.tp.L))) := (ab_fld_at hc_1).trans rfl
theorem hp_1_1 : ab_fpt (HH c r g) 1 5 1 (.int (qI (v))) = some (HH { c with tp := { c.tp with L := v } } r g) := (ab_fpt_at hc_1 (Nat.le_of_ble_eq_true rfl)).trans rfl
theorem hc_2 : (HH c r g)[2]? = some (.inl (0, zr 400 (fun k => qI (c.tp.B k)))) := rfl
theorem hr_2 (h0 : 0 ≤ i) (h1 : i < 400) : ab_ard rom 0 (HH c r g) 2 (qI i) = some (qI (c.tp.B i)) := zx_rd hc_2 (Nat.le_of_ble_eq_true rfl) h0 h1
theorem hs_2 (zf : Int → Int) : (HH c r g).set 2 (.inl (0, zr 400 (fun k => qI (zf k)))) = HH { c with tp := { c.tp with B := zf } } r g := rfl
theorem hw_2 (h0 : 0 ≤ i) (h1 : i < 400) : ab_awr 0 (HH c r g) 2 (qI i) (qI (v)) = some (HH { c with tp := { c.tp with B := zu c.tp.B i v } } r g) := by rw [zx_wr hc_2 (Nat.le_of_ble_eq_true rfl) h0 h1, zu_qI, hs_2]
theorem hl_2 : ab_aln rom (HH c r g) 2 = some (qI 400) := zx_ln hc_2
theorem hc_3 : (HH c r g)[3]? = some (.inr (.inr (5, [.ref 4, .int (qI (c.ou.L))]))) := rfl
theorem hi_3 : ab_iso (HH c r g) 3 5 = true := ab_iso_at hc_3
theorem hf_3_0 : ab_fld (HH c r g) 3 5 0 = some (.ref 4) := (ab_fld_at hc_3).trans rfl
theorem hf_3_1 : ab_fld (HH c r g) 3 5 1 = some (.int (qI (c.ou.L))) := (ab_fld_at hc_3).trans rfl
theorem hp_3_1 : ab_fpt (HH c r g) 3 5 1 (.int (qI (v))) = some (HH { c with ou := { c.ou with L := v } } r g) := (ab_fpt_at hc_3 (Nat.le_of_ble_eq_true rfl)).trans rfl
theorem hc_4 : (HH c r g)[4]? = some (.inl (0, zr 400 (fun k => qI (c.ou.B k)))) := rfl
theorem hr_4 (h0 : 0 ≤ i) (h1 : i < 400) : ab_ard rom 0 (HH c r g) 4 (qI i) = some (qI (c.ou.B i)) := zx_rd hc_4 (Nat.le_of_ble_eq_true rfl) h0 h1
theorem hs_4 (zf : Int → Int) : (HH c r g).set 4 (.inl (0, zr 400 (fun k => qI (zf k)))) = HH { c with ou := { c.ou with B := zf } } r g := rfl
theorem hw_4 (h0 : 0 ≤ i) (h1 : i < 400) : ab_awr 0 (HH c r g) 4 (qI i) (qI (v)) = some (HH { c with ou := { c.ou with B := zu c.ou.B i v } } r g) := by rw [zx_wr hc_4 (Nat.le_of_ble_eq_true rfl) h0 h1, zu_qI, hs_4]
theorem hl_4 : ab_aln rom (HH c r g) 4 = some (qI 400) := zx_ln hc_4
theorem hc_5 : (HH c r g)[5]? = some (.inr (.inl [some (pl 0), some (pl 1), some (pl 2)])) := rfl
theorem hc_26 : (HH c r g)[26]? = some (.inr (.inr (3, [.int (qI (c.rd.fn)), .int (qI (c.rd.fp)), .ref 1, .ref (pl 3), .int (qI (c.rd.nx)), .int (qI (c.rd.st)), .int (qI (c.rd.tk)), .int (qI (c.rd.vl))]))) := rfl
theorem hi_26 : ab_iso (HH c r g) 26 3 = true := ab_iso_at hc_26
theorem hf_26_0 : ab_fld (HH c r g) 26 3 0 = some (.int (qI (c.rd.fn))) := (ab_fld_at hc_26).trans rfl
theorem hp_26_0 : ab_fpt (HH c r g) 26 3 0 (.int (qI (v))) = some (HH { c with rd := { c.rd with fn := v } } r g) := (ab_fpt_at hc_26 (Nat.le_of_ble_eq_true rfl)).trans rfl
theorem hf_26_1 : ab_fld (HH c r g) 26 3 1 = some (.int (qI (c.rd.fp))) := (ab_fld_at hc_26).trans rfl
theorem hp_26_1 : ab_fpt (HH c r g) 26 3 1 (.int (qI (v))) = some (HH { c with rd := { c.rd with fp := v } } r g) := (ab_fpt_at hc_26 (Nat.le_of_ble_eq_true rfl)).trans rfl
theorem hf_26_2 : ab_fld (HH c r g) 26 3 2 = some (.ref 1) := (ab_fld_at hc_26).trans rfl
theorem hf_26_3 : ab_fld (HH c r g) 26 3 3 = some (.ref (pl 3)) := (ab_fld_at hc_26).trans rfl
theorem hf_26_4 : ab_fld (HH c r g) 26 3 4 = some (.int (qI (c.rd.nx))) := (ab_fld_at hc_26).trans rfl
theorem hp_26_4 : ab_fpt (HH c r g) 26 3 4 (.int (qI (v))) = some (HH { c with rd := { c.rd with nx := v } } r g) := (ab_fpt_at hc_26 (Nat.le_of_ble_eq_true rfl)).trans rfl
theorem hf_26_5 : ab_fld (HH c r g) 26 3 5 = some (.int (qI (c.rd.st))) := (ab_fld_at hc_26).trans rfl
theorem hp_26_5 : ab_fpt (HH c r g) 26 3 5 (.int (qI (v))) = some (HH { c with rd := { c.rd with st := v } } r g) := (ab_fpt_at hc_26 (Nat.le_of_ble_eq_true rfl)).trans rfl
theorem hf_26_6 : ab_fld (HH c r g) 26 3 6 = some (.int (qI (c.rd.tk))) := (ab_fld_at hc_26).trans rfl
theorem hp_26_6 : ab_fpt (HH c r g) 26 3 6 (.int (qI (v))) = some (HH { c with rd := { c.rd with tk := v } } r g) := (ab_fpt_at hc_26 (Nat.le_of_ble_eq_true rfl)).trans rfl
theorem hf_26_7 : ab_fld (HH c r g) 26 3 7 = some (.int (qI (c.rd.vl))) := (ab_fld_at hc_26).trans rfl
theorem hp_26_7 : ab_fpt (HH c r g) 26 3 7 (.int (qI (v))) = some (HH { c with rd := { c.rd with vl := v } } r g) := (ab_fpt_at hc_26 (Nat.le_of_ble_eq_true rfl)).trans rfl
theorem hc_27 : (HH c r g)[27]? = some (.inr (.inr (2, [.int (qI (c.pa.acts)), .int (qI (c.pa.new)), .ref 28, .ref 29]))) := rfl
theorem hi_27 : ab_iso (HH c r g) 27 2 = true := ab_iso_at hc_27
theorem hf_27_0 : ab_fld (HH c r g) 27 2 0 = some (.int (qI (c.pa.acts))) := (ab_fld_at hc_27).trans rfl
theorem hp_27_0 : ab_fpt (HH c r g) 27 2 0 (.int (qI (v))) = some (HH { c with pa := { c.pa with acts := v } } r g) := (ab_fpt_at hc_27 (Nat.le_of_ble_eq_true rfl)).trans rfl
theorem hf_27_1 : ab_fld (HH c r g) 27 2 1 = some (.int (qI (c.pa.new))) := (ab_fld_at hc_27).trans rfl
theorem hp_27_1 : ab_fpt (HH c r g) 27 2 1 (.int (qI (v))) = some (HH { c with pa := { c.pa with new := v } } r g) := (ab_fpt_at hc_27 (Nat.le_of_ble_eq_true rfl)).trans rfl
theorem hf_27_2 : ab_fld (HH c r g) 27 2 2 = some (.ref 28) := (ab_fld_at hc_27).trans rfl
theorem hf_27_3 : ab_fld (HH c r g) 27 2 3 = some (.ref 29) := (ab_fld_at hc_27).trans rfl
theorem hc_28 : (HH c r g)[28]? = some (.inr (.inl [some (pl 4), some (pl 5), some (pl 6), some (pl 7), some (pl 8), some (pl 9), some (pl 10), some (pl 11), some (pl 12), some (pl 13)])) := rfl
theorem hc_29 : (HH c r g)[29]? = some (.inl (0, zr 10 (fun k => qI (c.pa.sl k)))) := rfl
theorem hr_29 (h0 : 0 ≤ i) (h1 : i < 10) : ab_ard rom 0 (HH c r g) 29 (qI i) = some (qI (c.pa.sl i)) := zx_rd hc_29 (Nat.le_of_ble_eq_true rfl) h0 h1
theorem hs_29 (zf : Int → Int) : (HH c r g).set 29 (.inl (0, zr 10 (fun k => qI (zf k)))) = HH { c with pa := { c.pa with sl := zf } } r g := rfl
theorem hw_29 (h0 : 0 ≤ i) (h1 : i < 10) : ab_awr 0 (HH c r g) 29 (qI i) (qI (v)) = some (HH { c with pa := { c.pa with sl := zu c.pa.sl i v } } r g) := by rw [zx_wr hc_29 (Nat.le_of_ble_eq_true rfl) h0 h1, zu_qI, hs_29]
theorem hl_29 : ab_aln rom (HH c r g) 29 = some (qI 10) := zx_ln hc_29
theorem hc_80 : (HH c r g)[80]? = some (.inr (.inr (4, [.ref 81, .ref 86, .ref 87, .ref 88, .ref 89, .ref (pl c.se.net), .int (qI (c.se.kind)), .int (qI (c.se.top)), .int (qI (c.se.rep)), .int (qI (c.se.all)), .int (c.se.wor), .int (qI (c.se.many)), .int (qB (c.se.any)), .int (qB (c.se.one)), .int (qB (c.se.stop))]))) := rfl
theorem hi_80 : ab_iso (HH c r g) 80 4 = true := ab_iso_at hc_80
theorem hf_80_0 : ab_fld (HH c r g) 80 4 0 = some (.ref 81) := (ab_fld_at hc_80).trans rfl
theorem hf_80_1 : ab_fld (HH c r g) 80 4 1 = some (.ref 86) := (ab_fld_at hc_80).trans rfl
theorem hf_80_2 : ab_fld (HH c r g) 80 4 2 = some (.ref 87) := (ab_fld_at hc_80).trans rfl
theorem hf_80_3 : ab_fld (HH c r g) 80 4 3 = some (.ref 88) := (ab_fld_at hc_80).trans rfl
theorem hf_80_4 : ab_fld (HH c r g) 80 4 4 = some (.ref 89) := (ab_fld_at hc_80).trans rfl
theorem hf_80_5 : ab_fld (HH c r g) 80 4 5 = some (.ref (pl c.se.net)) := (ab_fld_at hc_80).trans rfl
theorem hp_80_5 : ab_fpt (HH c r g) 80 4 5 (.ref (pl j)) = some (HH { c with se := { c.se with net := j } } r g) := (ab_fpt_at hc_80 (Nat.le_of_ble_eq_true rfl)).trans rfl
theorem hf_80_6 : ab_fld (HH c r g) 80 4 6 = some (.int (qI (c.se.kind))) := (ab_fld_at hc_80).trans rfl
theorem hp_80_6 : ab_fpt (HH c r g) 80 4 6 (.int (qI (v))) = some (HH { c with se := { c.se with kind := v } } r g) := (ab_fpt_at hc_80 (Nat.le_of_ble_eq_true rfl)).trans rfl
theorem hf_80_7 : ab_fld (HH c r g) 80 4 7 = some (.int (qI (c.se.top))) := (ab_fld_at hc_80).trans rfl
theorem hp_80_7 : ab_fpt (HH c r g) 80 4 7 (.int (qI (v))) = some (HH { c with se := { c.se with top := v } } r g) := (ab_fpt_at hc_80 (Nat.le_of_ble_eq_true rfl)).trans rfl
theorem hf_80_8 : ab_fld (HH c r g) 80 4 8 = some (.int (qI (c.se.rep))) := (ab_fld_at hc_80).trans rfl
theorem hp_80_8 : ab_fpt (HH c r g) 80 4 8 (.int (qI (v))) = some (HH { c with se := { c.se with rep := v } } r g) := (ab_fpt_at hc_80 (Nat.le_of_ble_eq_true rfl)).trans rfl
theorem hf_80_9 : ab_fld (HH c r g) 80 4 9 = some (.int (qI (c.se.all))) := (ab_fld_at hc_80).trans rfl
theorem hp_80_9 : ab_fpt (HH c r g) 80 4 9 (.int (qI (v))) = some (HH { c with se := { c.se with all := v } } r g) := (ab_fpt_at hc_80 (Nat.le_of_ble_eq_true rfl)).trans rfl
theorem hf_80_10 : ab_fld (HH c r g) 80 4 10 = some (.int (c.se.wor)) := (ab_fld_at hc_80).trans rfl
theorem hp_80_10 : ab_fpt (HH c r g) 80 4 10 (.int (u)) = some (HH { c with se := { c.se with wor := u } } r g) := (ab_fpt_at hc_80 (Nat.le_of_ble_eq_true rfl)).trans rfl
theorem hf_80_11 : ab_fld (HH c r g) 80 4 11 = some (.int (qI (c.se.many))) := (ab_fld_at hc_80).trans rfl
theorem hp_80_11 : ab_fpt (HH c r g) 80 4 11 (.int (qI (v))) = some (HH { c with se := { c.se with many := v } } r g) := (ab_fpt_at hc_80 (Nat.le_of_ble_eq_true rfl)).trans rfl
theorem hf_80_12 : ab_fld (HH c r g) 80 4 12 = some (.int (qB (c.se.any))) := (ab_fld_at hc_80).trans rfl
theorem hp_80_12 : ab_fpt (HH c r g) 80 4 12 (.int (qB (b))) = some (HH { c with se := { c.se with any := b } } r g) := (ab_fpt_at hc_80 (Nat.le_of_ble_eq_true rfl)).trans rfl
theorem hf_80_13 : ab_fld (HH c r g) 80 4 13 = some (.int (qB (c.se.one))) := (ab_fld_at hc_80).trans rfl
theorem hp_80_13 : ab_fpt (HH c r g) 80 4 13 (.int (qB (b))) = some (HH { c with se := { c.se with one := b } } r g) := (ab_fpt_at hc_80 (Nat.le_of_ble_eq_true rfl)).trans rfl
theorem hf_80_14 : ab_fld (HH c r g) 80 4 14 = some (.int (qB (c.se.stop))) := (ab_fld_at hc_80).trans rfl
theorem hp_80_14 : ab_fpt (HH c r g) 80 4 14 (.int (qB (b))) = some (HH { c with se := { c.se with stop := b } } r g) := (ab_fpt_at hc_80 (Nat.le_of_ble_eq_true rfl)).trans rfl
theorem hc_81 : (HH c r g)[81]? = some (.inr (.inr (0, [.int (qI (c.ce.found)), .ref 82, .int (qI (c.ce.wat)), .ref 83, .int (qB (c.ce.cmp)), .ref 84, .ref 85]))) := rfl
theorem hi_81 : ab_iso (HH c r g) 81 0 = true := ab_iso_at hc_81
theorem hf_81_0 : ab_fld (HH c r g) 81 0 0 = some (.int (qI (c.ce.found))) := (ab_fld_at hc_81).trans rfl
theorem hp_81_0 : ab_fpt (HH c r g) 81 0 0 (.int (qI (v))) = some (HH { c with ce := { c.ce with found := v } } r g) := (ab_fpt_at hc_81 (Nat.le_of_ble_eq_true rfl)).trans rfl
theorem hf_81_1 : ab_fld (HH c r g) 81 0 1 = some (.ref 82) := (ab_fld_at hc_81).trans rfl
theorem hf_81_2 : ab_fld (HH c r g) 81 0 2 = some (.int (qI (c.ce.wat))) := (ab_fld_at hc_81).trans rfl
theorem hp_81_2 : ab_fpt (HH c r g) 81 0 2 (.int (qI (v))) = some (HH { c with ce := { c.ce with wat := v } } r g) := (ab_fpt_at hc_81 (Nat.le_of_ble_eq_true rfl)).trans rfl
theorem hf_81_3 : ab_fld (HH c r g) 81 0 3 = some (.ref 83) := (ab_fld_at hc_81).trans rfl
theorem hf_81_4 : ab_fld (HH c r g) 81 0 4 = some (.int (qB (c.ce.cmp))) := (ab_fld_at hc_81).trans rfl
theorem hp_81_4 : ab_fpt (HH c r g) 81 0 4 (.int (qB (b))) = some (HH { c with ce := { c.ce with cmp := b } } r g) := (ab_fpt_at hc_81 (Nat.le_of_ble_eq_true rfl)).trans rfl
theorem hf_81_5 : ab_fld (HH c r g) 81 0 5 = some (.ref 84) := (ab_fld_at hc_81).trans rfl
theorem hf_81_6 : ab_fld (HH c r g) 81 0 6 = some (.ref 85) := (ab_fld_at hc_81).trans rfl
theorem hc_82 : (HH c r g)[82]? = some (.inl (0, zr 7 (fun k => c.ce.ats k))) := rfl
theorem hr_82 (h0 : 0 ≤ i) (h1 : i < 7) : ab_ard rom 0 (HH c r g) 82 (qI i) = some (c.ce.ats i) := zx_rd hc_82 (Nat.le_of_ble_eq_true rfl) h0 h1
theorem hs_82 (zf : Int → Int32) : (HH c r g).set 82 (.inl (0, zr 7 (fun k => zf k))) = HH { c with ce := { c.ce with ats := zf } } r g := rfl
theorem hw_82 (h0 : 0 ≤ i) (h1 : i < 7) : ab_awr 0 (HH c r g) 82 (qI i) (u) = some (HH { c with ce := { c.ce with ats := zu c.ce.ats i u } } r g) := by rw [zx_wr hc_82 (Nat.le_of_ble_eq_true rfl) h0 h1, zu_S, hs_82]
theorem hl_82 : ab_aln rom (HH c r g) 82 = some (qI 7) := zx_ln hc_82
theorem hc_83 : (HH c r g)[83]? = some (.inl (0, zr 21 (fun k => qI (c.ce.tal k)))) := rfl
theorem hr_83 (h0 : 0 ≤ i) (h1 : i < 21) : ab_ard rom 0 (HH c r g) 83 (qI i) = some (qI (c.ce.tal i)) := zx_rd hc_83 (Nat.le_of_ble_eq_true rfl) h0 h1
theorem hs_83 (zf : Int → Int) : (HH c r g).set 83 (.inl (0, zr 21 (fun k => qI (zf k)))) = HH { c with ce := { c.ce with tal := zf } } r g := rfl
theorem hw_83 (h0 : 0 ≤ i) (h1 : i < 21) : ab_awr 0 (HH c r g) 83 (qI i) (qI (v)) = some (HH { c with ce := { c.ce with tal := zu c.ce.tal i v } } r g) := by rw [zx_wr hc_83 (Nat.le_of_ble_eq_true rfl) h0 h1, zu_qI, hs_83]
theorem hl_83 : ab_aln rom (HH c r g) 83 = some (qI 21) := zx_ln hc_83
theorem hc_84 : (HH c r g)[84]? = some (.inl (0, zr 7 (fun k => qI (c.ce.tar k)))) := rfl
theorem hr_84 (h0 : 0 ≤ i) (h1 : i < 7) : ab_ard rom 0 (HH c r g) 84 (qI i) = some (qI (c.ce.tar i)) := zx_rd hc_84 (Nat.le_of_ble_eq_true rfl) h0 h1
theorem hs_84 (zf : Int → Int) : (HH c r g).set 84 (.inl (0, zr 7 (fun k => qI (zf k)))) = HH { c with ce := { c.ce with tar := zf } } r g := rfl
theorem hw_84 (h0 : 0 ≤ i) (h1 : i < 7) : ab_awr 0 (HH c r g) 84 (qI i) (qI (v)) = some (HH { c with ce := { c.ce with tar := zu c.ce.tar i v } } r g) := by rw [zx_wr hc_84 (Nat.le_of_ble_eq_true rfl) h0 h1, zu_qI, hs_84]
theorem hl_84 : ab_aln rom (HH c r g) 84 = some (qI 7) := zx_ln hc_84
theorem hc_85 : (HH c r g)[85]? = some (.inl (0, zr 128 (fun k => qI (c.ce.agr k)))) := rfl
theorem hr_85 (h0 : 0 ≤ i) (h1 : i < 128) : ab_ard rom 0 (HH c r g) 85 (qI i) = some (qI (c.ce.agr i)) := zx_rd hc_85 (Nat.le_of_ble_eq_true rfl) h0 h1
theorem hs_85 (zf : Int → Int) : (HH c r g).set 85 (.inl (0, zr 128 (fun k => qI (zf k)))) = HH { c with ce := { c.ce with agr := zf } } r g := rfl
theorem hw_85 (h0 : 0 ≤ i) (h1 : i < 128) : ab_awr 0 (HH c r g) 85 (qI i) (qI (v)) = some (HH { c with ce := { c.ce with agr := zu c.ce.agr i v } } r g) := by rw [zx_wr hc_85 (Nat.le_of_ble_eq_true rfl) h0 h1, zu_qI, hs_85]
theorem hl_85 : ab_aln rom (HH c r g) 85 = some (qI 128) := zx_ln hc_85
theorem hc_86 : (HH c r g)[86]? = some (.inl (0, zr 7 (fun k => qI (c.se.lab k)))) := rfl
theorem hr_86 (h0 : 0 ≤ i) (h1 : i < 7) : ab_ard rom 0 (HH c r g) 86 (qI i) = some (qI (c.se.lab i)) := zx_rd hc_86 (Nat.le_of_ble_eq_true rfl) h0 h1
theorem hs_86 (zf : Int → Int) : (HH c r g).set 86 (.inl (0, zr 7 (fun k => qI (zf k)))) = HH { c with se := { c.se with lab := zf } } r g := rfl
theorem hw_86 (h0 : 0 ≤ i) (h1 : i < 7) : ab_awr 0 (HH c r g) 86 (qI i) (qI (v)) = some (HH { c with se := { c.se with lab := zu c.se.lab i v } } r g) := by rw [zx_wr hc_86 (Nat.le_of_ble_eq_true rfl) h0 h1, zu_qI, hs_86]
theorem hl_86 : ab_aln rom (HH c r g) 86 = some (qI 7) := zx_ln hc_86
theorem hc_87 : (HH c r g)[87]? = some (.inl (0, zr 21 (fun k => qI (c.se.uses k)))) := rfl
theorem hr_87 (h0 : 0 ≤ i) (h1 : i < 21) : ab_ard rom 0 (HH c r g) 87 (qI i) = some (qI (c.se.uses i)) := zx_rd hc_87 (Nat.le_of_ble_eq_true rfl) h0 h1
theorem hs_87 (zf : Int → Int) : (HH c r g).set 87 (.inl (0, zr 21 (fun k => qI (zf k)))) = HH { c with se := { c.se with uses := zf } } r g := rfl
theorem hw_87 (h0 : 0 ≤ i) (h1 : i < 21) : ab_awr 0 (HH c r g) 87 (qI i) (qI (v)) = some (HH { c with se := { c.se with uses := zu c.se.uses i v } } r g) := by rw [zx_wr hc_87 (Nat.le_of_ble_eq_true rfl) h0 h1, zu_qI, hs_87]
theorem hl_87 : ab_aln rom (HH c r g) 87 = some (qI 21) := zx_ln hc_87
theorem hc_88 : (HH c r g)[88]? = some (.inl (0, zr 7 (fun k => qI (c.se.ord k)))) := rfl
theorem hr_88 (h0 : 0 ≤ i) (h1 : i < 7) : ab_ard rom 0 (HH c r g) 88 (qI i) = some (qI (c.se.ord i)) := zx_rd hc_88 (Nat.le_of_ble_eq_true rfl) h0 h1
theorem hs_88 (zf : Int → Int) : (HH c r g).set 88 (.inl (0, zr 7 (fun k => qI (zf k)))) = HH { c with se := { c.se with ord := zf } } r g := rfl
theorem hw_88 (h0 : 0 ≤ i) (h1 : i < 7) : ab_awr 0 (HH c r g) 88 (qI i) (qI (v)) = some (HH { c with se := { c.se with ord := zu c.se.ord i v } } r g) := by rw [zx_wr hc_88 (Nat.le_of_ble_eq_true rfl) h0 h1, zu_qI, hs_88]
theorem hl_88 : ab_aln rom (HH c r g) 88 = some (qI 7) := zx_ln hc_88
theorem hc_89 : (HH c r g)[89]? = some (.inl (0, zr 7 (fun k => qI (c.se.shi k)))) := rfl
theorem hr_89 (h0 : 0 ≤ i) (h1 : i < 7) : ab_ard rom 0 (HH c r g) 89 (qI i) = some (qI (c.se.shi i)) := zx_rd hc_89 (Nat.le_of_ble_eq_true rfl) h0 h1
theorem hs_89 (zf : Int → Int) : (HH c r g).set 89 (.inl (0, zr 7 (fun k => qI (zf k)))) = HH { c with se := { c.se with shi := zf } } r g := rfl
theorem hw_89 (h0 : 0 ≤ i) (h1 : i < 7) : ab_awr 0 (HH c r g) 89 (qI i) (qI (v)) = some (HH { c with se := { c.se with shi := zu c.se.shi i v } } r g) := by rw [zx_wr hc_89 (Nat.le_of_ble_eq_true rfl) h0 h1, zu_qI, hs_89]
theorem hl_89 : ab_aln rom (HH c r g) 89 = some (qI 7) := zx_ln hc_89
theorem hc_90 : (HH c r g)[90]? = some (.inl (0, zr 12 (fun k => qI (c.mks k)))) := rfl
theorem hr_90 (h0 : 0 ≤ i) (h1 : i < 12) : ab_ard rom 0 (HH c r g) 90 (qI i) = some (qI (c.mks i)) := zx_rd hc_90 (Nat.le_of_ble_eq_true rfl) h0 h1
theorem hs_90 (zf : Int → Int) : (HH c r g).set 90 (.inl (0, zr 12 (fun k => qI (zf k)))) = HH { c with mks := zf } r g := rfl
theorem hw_90 (h0 : 0 ≤ i) (h1 : i < 12) : ab_awr 0 (HH c r g) 90 (qI i) (qI (v)) = some (HH { c with mks := zu c.mks i v } r g) := by rw [zx_wr hc_90 (Nat.le_of_ble_eq_true rfl) h0 h1, zu_qI, hs_90]
theorem hl_90 : ab_aln rom (HH c r g) 90 = some (qI 12) := zx_ln hc_90
theorem hc_91 : (HH c r g)[91]? = some (.inl (0, zr 66 (fun k => qI (c.ga k)))) := rfl
theorem hr_91 (h0 : 0 ≤ i) (h1 : i < 66) : ab_ard rom 0 (HH c r g) 91 (qI i) = some (qI (c.ga i)) := zx_rd hc_91 (Nat.le_of_ble_eq_true rfl) h0 h1
theorem hs_91 (zf : Int → Int) : (HH c r g).set 91 (.inl (0, zr 66 (fun k => qI (zf k)))) = HH { c with ga := zf } r g := rfl
theorem hw_91 (h0 : 0 ≤ i) (h1 : i < 66) : ab_awr 0 (HH c r g) 91 (qI i) (qI (v)) = some (HH { c with ga := zu c.ga i v } r g) := by rw [zx_wr hc_91 (Nat.le_of_ble_eq_true rfl) h0 h1, zu_qI, hs_91]
theorem hl_91 : ab_aln rom (HH c r g) 91 = some (qI 66) := zx_ln hc_91
theorem hc_92 : (HH c r g)[92]? = some (.inr (.inr (7, [.ref 93, .ref 94, .ref 95, .int (qI (r.km)), .ref 96, .int (qI (r.tp.L)), .int (qI (r.ps.fk)), .int (qI (r.ps.fp)), .int (qI (r.ps.spot)), .int (qI (r.ps.beg)), .int (qI (r.ps.tok)), .int (qI (r.ps.val)), .int (qB (r.ps.bad)), .ref 97, .ref 98, .int (qI (r.ln.many)), .ref 99, .int (qI (r.lb.n)), .int (qB (r.lb.tree)), .ref 100, .ref 101, .int (qI (r.sk.found)), .int (qI (r.sk.ends)), .int (qI (r.sk.unl)), .ref 102, .ref 103, .ref 104, .ref 105, .int (qI (r.ou.L))]))) := rfl
theorem hi_92 : ab_iso (HH c r g) 92 7 = true := ab_iso_at hc_92
theorem hf_92_0 : ab_fld (HH c r g) 92 7 0 = some (.ref 93) := (ab_fld_at hc_92).trans rfl
theorem hf_92_1 : ab_fld (HH c r g) 92 7 1 = some (.ref 94) := (ab_fld_at hc_92).trans rfl
theorem hf_92_2 : ab_fld (HH c r g) 92 7 2 = some (.ref 95) := (ab_fld_at hc_92).trans rfl
theorem hf_92_3 : ab_fld (HH c r g) 92 7 3 = some (.int (qI (r.km))) := (ab_fld_at hc_92).trans rfl
theorem hp_92_3 : ab_fpt (HH c r g) 92 7 3 (.int (qI (v))) = some (HH c { r with km := v } g) := (ab_fpt_at hc_92 (Nat.le_of_ble_eq_true rfl)).trans rfl
theorem hf_92_4 : ab_fld (HH c r g) 92 7 4 = some (.ref 96) := (ab_fld_at hc_92).trans rfl
theorem hf_92_5 : ab_fld (HH c r g) 92 7 5 = some (.int (qI (r.tp.L))) := (ab_fld_at hc_92).trans rfl
theorem hp_92_5 : ab_fpt (HH c r g) 92 7 5 (.int (qI (v))) = some (HH c { r with tp := { r.tp with L := v } } g) := (ab_fpt_at hc_92 (Nat.le_of_ble_eq_true rfl)).trans rfl
theorem hf_92_6 : ab_fld (HH c r g) 92 7 6 = some (.int (qI (r.ps.fk))) := (ab_fld_at hc_92).trans rfl
theorem hp_92_6 : ab_fpt (HH c r g) 92 7 6 (.int (qI (v))) = some (HH c { r with ps := { r.ps with fk := v } } g) := (ab_fpt_at hc_92 (Nat.le_of_ble_eq_true rfl)).trans rfl
theorem hf_92_7 : ab_fld (HH c r g) 92 7 7 = some (.int (qI (r.ps.fp))) := (ab_fld_at hc_92).trans rfl
theorem hp_92_7 : ab_fpt (HH c r g) 92 7 7 (.int (qI (v))) = some (HH c { r with ps := { r.ps with fp := v } } g) := (ab_fpt_at hc_92 (Nat.le_of_ble_eq_true rfl)).trans rfl
theorem hf_92_8 : ab_fld (HH c r g) 92 7 8 = some (.int (qI (r.ps.spot))) := (ab_fld_at hc_92).trans rfl
theorem hp_92_8 : ab_fpt (HH c r g) 92 7 8 (.int (qI (v))) = some (HH c { r with ps := { r.ps with spot := v } } g) := (ab_fpt_at hc_92 (Nat.le_of_ble_eq_true rfl)).trans rfl
theorem hf_92_9 : ab_fld (HH c r g) 92 7 9 = some (.int (qI (r.ps.beg))) := (ab_fld_at hc_92).trans rfl
theorem hp_92_9 : ab_fpt (HH c r g) 92 7 9 (.int (qI (v))) = some (HH c { r with ps := { r.ps with beg := v } } g) := (ab_fpt_at hc_92 (Nat.le_of_ble_eq_true rfl)).trans rfl
theorem hf_92_10 : ab_fld (HH c r g) 92 7 10 = some (.int (qI (r.ps.tok))) := (ab_fld_at hc_92).trans rfl
theorem hp_92_10 : ab_fpt (HH c r g) 92 7 10 (.int (qI (v))) = some (HH c { r with ps := { r.ps with tok := v } } g) := (ab_fpt_at hc_92 (Nat.le_of_ble_eq_true rfl)).trans rfl
theorem hf_92_11 : ab_fld (HH c r g) 92 7 11 = some (.int (qI (r.ps.val))) := (ab_fld_at hc_92).trans rfl
theorem hp_92_11 : ab_fpt (HH c r g) 92 7 11 (.int (qI (v))) = some (HH c { r with ps := { r.ps with val := v } } g) := (ab_fpt_at hc_92 (Nat.le_of_ble_eq_true rfl)).trans rfl
theorem hf_92_12 : ab_fld (HH c r g) 92 7 12 = some (.int (qB (r.ps.bad))) := (ab_fld_at hc_92).trans rfl
theorem hp_92_12 : ab_fpt (HH c r g) 92 7 12 (.int (qB (b))) = some (HH c { r with ps := { r.ps with bad := b } } g) := (ab_fpt_at hc_92 (Nat.le_of_ble_eq_true rfl)).trans rfl
theorem hf_92_13 : ab_fld (HH c r g) 92 7 13 = some (.ref 97) := (ab_fld_at hc_92).trans rfl
theorem hf_92_14 : ab_fld (HH c r g) 92 7 14 = some (.ref 98) := (ab_fld_at hc_92).trans rfl
theorem hf_92_15 : ab_fld (HH c r g) 92 7 15 = some (.int (qI (r.ln.many))) := (ab_fld_at hc_92).trans rfl
theorem hp_92_15 : ab_fpt (HH c r g) 92 7 15 (.int (qI (v))) = some (HH c { r with ln := { r.ln with many := v } } g) := (ab_fpt_at hc_92 (Nat.le_of_ble_eq_true rfl)).trans rfl
theorem hf_92_16 : ab_fld (HH c r g) 92 7 16 = some (.ref 99) := (ab_fld_at hc_92).trans rfl
theorem hf_92_17 : ab_fld (HH c r g) 92 7 17 = some (.int (qI (r.lb.n))) := (ab_fld_at hc_92).trans rfl
theorem hp_92_17 : ab_fpt (HH c r g) 92 7 17 (.int (qI (v))) = some (HH c { r with lb := { r.lb with n := v } } g) := (ab_fpt_at hc_92 (Nat.le_of_ble_eq_true rfl)).trans rfl
theorem hf_92_18 : ab_fld (HH c r g) 92 7 18 = some (.int (qB (r.lb.tree))) := (ab_fld_at hc_92).trans rfl
theorem hp_92_18 : ab_fpt (HH c r g) 92 7 18 (.int (qB (b))) = some (HH c { r with lb := { r.lb with tree := b } } g) := (ab_fpt_at hc_92 (Nat.le_of_ble_eq_true rfl)).trans rfl
theorem hf_92_19 : ab_fld (HH c r g) 92 7 19 = some (.ref 100) := (ab_fld_at hc_92).trans rfl
theorem hf_92_20 : ab_fld (HH c r g) 92 7 20 = some (.ref 101) := (ab_fld_at hc_92).trans rfl
theorem hf_92_21 : ab_fld (HH c r g) 92 7 21 = some (.int (qI (r.sk.found))) := (ab_fld_at hc_92).trans rfl
theorem hp_92_21 : ab_fpt (HH c r g) 92 7 21 (.int (qI (v))) = some (HH c { r with sk := { r.sk with found := v } } g) := (ab_fpt_at hc_92 (Nat.le_of_ble_eq_true rfl)).trans rfl
theorem hf_92_22 : ab_fld (HH c r g) 92 7 22 = some (.int (qI (r.sk.ends))) := (ab_fld_at hc_92).trans rfl
theorem hp_92_22 : ab_fpt (HH c r g) 92 7 22 (.int (qI (v))) = some (HH c { r with sk := { r.sk with ends := v } } g) := (ab_fpt_at hc_92 (Nat.le_of_ble_eq_true rfl)).trans rfl
theorem hf_92_23 : ab_fld (HH c r g) 92 7 23 = some (.int (qI (r.sk.unl))) := (ab_fld_at hc_92).trans rfl
theorem hp_92_23 : ab_fpt (HH c r g) 92 7 23 (.int (qI (v))) = some (HH c { r with sk := { r.sk with unl := v } } g) := (ab_fpt_at hc_92 (Nat.le_of_ble_eq_true rfl)).trans rfl
theorem hf_92_24 : ab_fld (HH c r g) 92 7 24 = some (.ref 102) := (ab_fld_at hc_92).trans rfl
theorem hf_92_25 : ab_fld (HH c r g) 92 7 25 = some (.ref 103) := (ab_fld_at hc_92).trans rfl
theorem hf_92_26 : ab_fld (HH c r g) 92 7 26 = some (.ref 104) := (ab_fld_at hc_92).trans rfl
theorem hf_92_27 : ab_fld (HH c r g) 92 7 27 = some (.ref 105) := (ab_fld_at hc_92).trans rfl
theorem hf_92_28 : ab_fld (HH c r g) 92 7 28 = some (.int (qI (r.ou.L))) := (ab_fld_at hc_92).trans rfl
theorem hp_92_28 : ab_fpt (HH c r g) 92 7 28 (.int (qI (v))) = some (HH c { r with ou := { r.ou with L := v } } g) := (ab_fpt_at hc_92 (Nat.le_of_ble_eq_true rfl)).trans rfl
theorem hc_93 : (HH c r g)[93]? = some (.inl (0, zr 45 (fun k => r.row k))) := rfl
theorem hr_93 (h0 : 0 ≤ i) (h1 : i < 45) : ab_ard rom 0 (HH c r g) 93 (qI i) = some (r.row i) := zx_rd hc_93 (Nat.le_of_ble_eq_true rfl) h0 h1
theorem hs_93 (zf : Int → Int32) : (HH c r g).set 93 (.inl (0, zr 45 (fun k => zf k))) = HH c { r with row := zf } g := rfl
theorem hw_93 (h0 : 0 ≤ i) (h1 : i < 45) : ab_awr 0 (HH c r g) 93 (qI i) (u) = some (HH c { r with row := zu r.row i u } g) := by rw [zx_wr hc_93 (Nat.le_of_ble_eq_true rfl) h0 h1, zu_S, hs_93]
theorem hl_93 : ab_aln rom (HH c r g) 93 = some (qI 45) := zx_ln hc_93
theorem hc_94 : (HH c r g)[94]? = some (.inl (0, zr 45 (fun k => r.was k))) := rfl
theorem hr_94 (h0 : 0 ≤ i) (h1 : i < 45) : ab_ard rom 0 (HH c r g) 94 (qI i) = some (r.was i) := zx_rd hc_94 (Nat.le_of_ble_eq_true rfl) h0 h1
theorem hs_94 (zf : Int → Int32) : (HH c r g).set 94 (.inl (0, zr 45 (fun k => zf k))) = HH c { r with was := zf } g := rfl
theorem hw_94 (h0 : 0 ≤ i) (h1 : i < 45) : ab_awr 0 (HH c r g) 94 (qI i) (u) = some (HH c { r with was := zu r.was i u } g) := by rw [zx_wr hc_94 (Nat.le_of_ble_eq_true rfl) h0 h1, zu_S, hs_94]
theorem hl_94 : ab_aln rom (HH c r g) 94 = some (qI 45) := zx_ln hc_94
theorem hc_95 : (HH c r g)[95]? = some (.inl (0, zr 450 (fun k => r.kept k))) := rfl
theorem hr_95 (h0 : 0 ≤ i) (h1 : i < 450) : ab_ard rom 0 (HH c r g) 95 (qI i) = some (r.kept i) := zx_rd hc_95 (Nat.le_of_ble_eq_true rfl) h0 h1
theorem hs_95 (zf : Int → Int32) : (HH c r g).set 95 (.inl (0, zr 450 (fun k => zf k))) = HH c { r with kept := zf } g := rfl
theorem hw_95 (h0 : 0 ≤ i) (h1 : i < 450) : ab_awr 0 (HH c r g) 95 (qI i) (u) = some (HH c { r with kept := zu r.kept i u } g) := by rw [zx_wr hc_95 (Nat.le_of_ble_eq_true rfl) h0 h1, zu_S, hs_95]
theorem hl_95 : ab_aln rom (HH c r g) 95 = some (qI 450) := zx_ln hc_95
theorem hc_96 : (HH c r g)[96]? = some (.inl (0, zr 400 (fun k => qI (r.tp.B k)))) := rfl
theorem hr_96 (h0 : 0 ≤ i) (h1 : i < 400) : ab_ard rom 0 (HH c r g) 96 (qI i) = some (qI (r.tp.B i)) := zx_rd hc_96 (Nat.le_of_ble_eq_true rfl) h0 h1
theorem hs_96 (zf : Int → Int) : (HH c r g).set 96 (.inl (0, zr 400 (fun k => qI (zf k)))) = HH c { r with tp := { r.tp with B := zf } } g := rfl
theorem hw_96 (h0 : 0 ≤ i) (h1 : i < 400) : ab_awr 0 (HH c r g) 96 (qI i) (qI (v)) = some (HH c { r with tp := { r.tp with B := zu r.tp.B i v } } g) := by rw [zx_wr hc_96 (Nat.le_of_ble_eq_true rfl) h0 h1, zu_qI, hs_96]
theorem hl_96 : ab_aln rom (HH c r g) 96 = some (qI 400) := zx_ln hc_96
theorem hc_97 : (HH c r g)[97]? = some (.inl (0, zr 11 (fun k => qI (r.ln.A k)))) := rfl
theorem hr_97 (h0 : 0 ≤ i) (h1 : i < 11) : ab_ard rom 0 (HH c r g) 97 (qI i) = some (qI (r.ln.A i)) := zx_rd hc_97 (Nat.le_of_ble_eq_true rfl) h0 h1
theorem hs_97 (zf : Int → Int) : (HH c r g).set 97 (.inl (0, zr 11 (fun k => qI (zf k)))) = HH c { r with ln := { r.ln with A := zf } } g := rfl
theorem hw_97 (h0 : 0 ≤ i) (h1 : i < 11) : ab_awr 0 (HH c r g) 97 (qI i) (qI (v)) = some (HH c { r with ln := { r.ln with A := zu r.ln.A i v } } g) := by rw [zx_wr hc_97 (Nat.le_of_ble_eq_true rfl) h0 h1, zu_qI, hs_97]
theorem hl_97 : ab_aln rom (HH c r g) 97 = some (qI 11) := zx_ln hc_97
theorem hc_98 : (HH c r g)[98]? = some (.inl (0, zr 11 (fun k => qI (r.ln.B k)))) := rfl
theorem hr_98 (h0 : 0 ≤ i) (h1 : i < 11) : ab_ard rom 0 (HH c r g) 98 (qI i) = some (qI (r.ln.B i)) := zx_rd hc_98 (Nat.le_of_ble_eq_true rfl) h0 h1
theorem hs_98 (zf : Int → Int) : (HH c r g).set 98 (.inl (0, zr 11 (fun k => qI (zf k)))) = HH c { r with ln := { r.ln with B := zf } } g := rfl
theorem hw_98 (h0 : 0 ≤ i) (h1 : i < 11) : ab_awr 0 (HH c r g) 98 (qI i) (qI (v)) = some (HH c { r with ln := { r.ln with B := zu r.ln.B i v } } g) := by rw [zx_wr hc_98 (Nat.le_of_ble_eq_true rfl) h0 h1, zu_qI, hs_98]
theorem hl_98 : ab_aln rom (HH c r g) 98 = some (qI 11) := zx_ln hc_98
theorem hc_99 : (HH c r g)[99]? = some (.inl (0, zr 7 (fun k => qI (r.lb.lab k)))) := rfl
theorem hr_99 (h0 : 0 ≤ i) (h1 : i < 7) : ab_ard rom 0 (HH c r g) 99 (qI i) = some (qI (r.lb.lab i)) := zx_rd hc_99 (Nat.le_of_ble_eq_true rfl) h0 h1
theorem hs_99 (zf : Int → Int) : (HH c r g).set 99 (.inl (0, zr 7 (fun k => qI (zf k)))) = HH c { r with lb := { r.lb with lab := zf } } g := rfl
theorem hw_99 (h0 : 0 ≤ i) (h1 : i < 7) : ab_awr 0 (HH c r g) 99 (qI i) (qI (v)) = some (HH c { r with lb := { r.lb with lab := zu r.lb.lab i v } } g) := by rw [zx_wr hc_99 (Nat.le_of_ble_eq_true rfl) h0 h1, zu_qI, hs_99]
theorem hl_99 : ab_aln rom (HH c r g) 99 = some (qI 7) := zx_ln hc_99
theorem hc_100 : (HH c r g)[100]? = some (.inl (0, zr 7 (fun k => qI (r.sk.want k)))) := rfl
theorem hr_100 (h0 : 0 ≤ i) (h1 : i < 7) : ab_ard rom 0 (HH c r g) 100 (qI i) = some (qI (r.sk.want i)) := zx_rd hc_100 (Nat.le_of_ble_eq_true rfl) h0 h1
theorem hs_100 (zf : Int → Int) : (HH c r g).set 100 (.inl (0, zr 7 (fun k => qI (zf k)))) = HH c { r with sk := { r.sk with want := zf } } g := rfl
theorem hw_100 (h0 : 0 ≤ i) (h1 : i < 7) : ab_awr 0 (HH c r g) 100 (qI i) (qI (v)) = some (HH c { r with sk := { r.sk with want := zu r.sk.want i v } } g) := by rw [zx_wr hc_100 (Nat.le_of_ble_eq_true rfl) h0 h1, zu_qI, hs_100]
theorem hl_100 : ab_aln rom (HH c r g) 100 = some (qI 7) := zx_ln hc_100
theorem hc_101 : (HH c r g)[101]? = some (.inl (0, zr 7 (fun k => r.sk.hav k))) := rfl
theorem hr_101 (h0 : 0 ≤ i) (h1 : i < 7) : ab_ard rom 0 (HH c r g) 101 (qI i) = some (r.sk.hav i) := zx_rd hc_101 (Nat.le_of_ble_eq_true rfl) h0 h1
theorem hs_101 (zf : Int → Int32) : (HH c r g).set 101 (.inl (0, zr 7 (fun k => zf k))) = HH c { r with sk := { r.sk with hav := zf } } g := rfl
theorem hw_101 (h0 : 0 ≤ i) (h1 : i < 7) : ab_awr 0 (HH c r g) 101 (qI i) (u) = some (HH c { r with sk := { r.sk with hav := zu r.sk.hav i u } } g) := by rw [zx_wr hc_101 (Nat.le_of_ble_eq_true rfl) h0 h1, zu_S, hs_101]
theorem hl_101 : ab_aln rom (HH c r g) 101 = some (qI 7) := zx_ln hc_101
theorem hc_102 : (HH c r g)[102]? = some (.inl (0, zr 15 (fun k => r.made k))) := rfl
theorem hr_102 (h0 : 0 ≤ i) (h1 : i < 15) : ab_ard rom 0 (HH c r g) 102 (qI i) = some (r.made i) := zx_rd hc_102 (Nat.le_of_ble_eq_true rfl) h0 h1
theorem hs_102 (zf : Int → Int32) : (HH c r g).set 102 (.inl (0, zr 15 (fun k => zf k))) = HH c { r with made := zf } g := rfl
theorem hw_102 (h0 : 0 ≤ i) (h1 : i < 15) : ab_awr 0 (HH c r g) 102 (qI i) (u) = some (HH c { r with made := zu r.made i u } g) := by rw [zx_wr hc_102 (Nat.le_of_ble_eq_true rfl) h0 h1, zu_S, hs_102]
theorem hl_102 : ab_aln rom (HH c r g) 102 = some (qI 15) := zx_ln hc_102
theorem hc_103 : (HH c r g)[103]? = some (.inl (0, zr 12 (fun k => qI (r.num k)))) := rfl
theorem hr_103 (h0 : 0 ≤ i) (h1 : i < 12) : ab_ard rom 0 (HH c r g) 103 (qI i) = some (qI (r.num i)) := zx_rd hc_103 (Nat.le_of_ble_eq_true rfl) h0 h1
theorem hs_103 (zf : Int → Int) : (HH c r g).set 103 (.inl (0, zr 12 (fun k => qI (zf k)))) = HH c { r with num := zf } g := rfl
theorem hw_103 (h0 : 0 ≤ i) (h1 : i < 12) : ab_awr 0 (HH c r g) 103 (qI i) (qI (v)) = some (HH c { r with num := zu r.num i v } g) := by rw [zx_wr hc_103 (Nat.le_of_ble_eq_true rfl) h0 h1, zu_qI, hs_103]
theorem hl_103 : ab_aln rom (HH c r g) 103 = some (qI 12) := zx_ln hc_103
theorem hc_104 : (HH c r g)[104]? = some (.inl (1, zr 256 (fun k => qB (r.seen k)))) := rfl
theorem hr_104 (h0 : 0 ≤ i) (h1 : i < 256) : ab_ard rom 1 (HH c r g) 104 (qI i) = some (qB (r.seen i)) := zx_rd hc_104 (Nat.le_of_ble_eq_true rfl) h0 h1
theorem hs_104 (zf : Int → Bool) : (HH c r g).set 104 (.inl (1, zr 256 (fun k => qB (zf k)))) = HH c { r with seen := zf } g := rfl
theorem hw_104 (h0 : 0 ≤ i) (h1 : i < 256) : ab_awr 1 (HH c r g) 104 (qI i) (qB (b)) = some (HH c { r with seen := zu r.seen i b } g) := by rw [zx_wr hc_104 (Nat.le_of_ble_eq_true rfl) h0 h1, zu_qB, hs_104]
theorem hc_105 : (HH c r g)[105]? = some (.inl (0, zr 120 (fun k => qI (r.ou.B k)))) := rfl
theorem hr_105 (h0 : 0 ≤ i) (h1 : i < 120) : ab_ard rom 0 (HH c r g) 105 (qI i) = some (qI (r.ou.B i)) := zx_rd hc_105 (Nat.le_of_ble_eq_true rfl) h0 h1
theorem hs_105 (zf : Int → Int) : (HH c r g).set 105 (.inl (0, zr 120 (fun k => qI (zf k)))) = HH c { r with ou := { r.ou with B := zf } } g := rfl
theorem hw_105 (h0 : 0 ≤ i) (h1 : i < 120) : ab_awr 0 (HH c r g) 105 (qI i) (qI (v)) = some (HH c { r with ou := { r.ou with B := zu r.ou.B i v } } g) := by rw [zx_wr hc_105 (Nat.le_of_ble_eq_true rfl) h0 h1, zu_qI, hs_105]
theorem hl_105 : ab_aln rom (HH c r g) 105 = some (qI 120) := zx_ln hc_105
theorem hc_n (hj : j < 14) : (HH c r g)[pl j]? = some (nobj (pl j) (c.net j)) := by
  match j, hj with
  | 0, _ => rfl
  | 1, _ => rfl
  | 2, _ => rfl
  | 3, _ => rfl
  | 4, _ => rfl
  | 5, _ => rfl
  | 6, _ => rfl
  | 7, _ => rfl
  | 8, _ => rfl
  | 9, _ => rfl
  | 10, _ => rfl
  | 11, _ => rfl
  | 12, _ => rfl
  | 13, _ => rfl
  | (q + 14), hj => exact absurd hj (by omega)
theorem hc_lo (hj : j < 14) : (HH c r g)[pl j + 1]? = some (nlo (c.net j)) := by
  match j, hj with
  | 0, _ => rfl
  | 1, _ => rfl
  | 2, _ => rfl
  | 3, _ => rfl
  | 4, _ => rfl
  | 5, _ => rfl
  | 6, _ => rfl
  | 7, _ => rfl
  | 8, _ => rfl
  | 9, _ => rfl
  | 10, _ => rfl
  | 11, _ => rfl
  | 12, _ => rfl
  | 13, _ => rfl
  | (q + 14), hj => exact absurd hj (by omega)
theorem hc_hi (hj : j < 14) : (HH c r g)[pl j + 2]? = some (nhi (c.net j)) := by
  match j, hj with
  | 0, _ => rfl
  | 1, _ => rfl
  | 2, _ => rfl
  | 3, _ => rfl
  | 4, _ => rfl
  | 5, _ => rfl
  | 6, _ => rfl
  | 7, _ => rfl
  | 8, _ => rfl
  | 9, _ => rfl
  | 10, _ => rfl
  | 11, _ => rfl
  | 12, _ => rfl
  | 13, _ => rfl
  | (q + 14), hj => exact absurd hj (by omega)
theorem hc_lab (hj : j < 14) : (HH c r g)[pl j + 3]? = some (nlab (c.net j)) := by
  match j, hj with
  | 0, _ => rfl
  | 1, _ => rfl
  | 2, _ => rfl
  | 3, _ => rfl
  | 4, _ => rfl
  | 5, _ => rfl
  | 6, _ => rfl
  | 7, _ => rfl
  | 8, _ => rfl
  | 9, _ => rfl
  | 10, _ => rfl
  | 11, _ => rfl
  | 12, _ => rfl
  | 13, _ => rfl
  | (q + 14), hj => exact absurd hj (by omega)
theorem hc_bes (hj : j < 14) : (HH c r g)[pl j + 4]? = some (nbes (c.net j)) := by
  match j, hj with
  | 0, _ => rfl
  | 1, _ => rfl
  | 2, _ => rfl
  | 3, _ => rfl
  | 4, _ => rfl
  | 5, _ => rfl
  | 6, _ => rfl
  | 7, _ => rfl
  | 8, _ => rfl
  | 9, _ => rfl
  | 10, _ => rfl
  | 11, _ => rfl
  | 12, _ => rfl
  | 13, _ => rfl
  | (q + 14), hj => exact absurd hj (by omega)
theorem hi_n (hj : j < 14) : ab_iso (HH c r g) (pl j) 1 = true := ab_iso_at (hc_n hj)
theorem hf_nn (hj : j < 14) : ab_fld (HH c r g) (pl j) 1 0 = some (.int (qI (c.net j).n)) := (ab_fld_at (hc_n hj)).trans rfl
theorem hf_nm (hj : j < 14) : ab_fld (HH c r g) (pl j) 1 1 = some (.int (qI (c.net j).m)) := (ab_fld_at (hc_n hj)).trans rfl
theorem hf_nlo (hj : j < 14) : ab_fld (HH c r g) (pl j) 1 2 = some (.ref (pl j + 1)) := (ab_fld_at (hc_n hj)).trans rfl
theorem hf_nhi (hj : j < 14) : ab_fld (HH c r g) (pl j) 1 3 = some (.ref (pl j + 2)) := (ab_fld_at (hc_n hj)).trans rfl
theorem hf_nlab (hj : j < 14) : ab_fld (HH c r g) (pl j) 1 4 = some (.ref (pl j + 3)) := (ab_fld_at (hc_n hj)).trans rfl
theorem hf_nbes (hj : j < 14) : ab_fld (HH c r g) (pl j) 1 5 = some (.ref (pl j + 4)) := (ab_fld_at (hc_n hj)).trans rfl
theorem hr_lo (hj : j < 14) (h0 : 0 ≤ i) (h1 : i < 10) : ab_ard rom 0 (HH c r g) (pl j + 1) (qI i) = some (qI ((c.net j).lo i)) := zx_rd (hc_lo hj) (Nat.le_of_ble_eq_true rfl) h0 h1
theorem hs_lo (hj : j < 14) (zf : Int → Int) : (HH c r g).set (pl j + 1) (.inl (0, zr 10 (fun k => qI (zf k)))) = HH { c with net := zn c.net j { c.net j with lo := zf } } r g := by
  match j, hj with
  | 0, _ => rfl
  | 1, _ => rfl
  | 2, _ => rfl
  | 3, _ => rfl
  | 4, _ => rfl
  | 5, _ => rfl
  | 6, _ => rfl
  | 7, _ => rfl
  | 8, _ => rfl
  | 9, _ => rfl
  | 10, _ => rfl
  | 11, _ => rfl
  | 12, _ => rfl
  | 13, _ => rfl
  | (q + 14), hj => exact absurd hj (by omega)
theorem hw_lo (hj : j < 14) (h0 : 0 ≤ i) (h1 : i < 10) : ab_awr 0 (HH c r g) (pl j + 1) (qI i) (qI (v)) = some (HH { c with net := zn c.net j { c.net j with lo := zu (c.net j).lo i v } } r g) := by rw [zx_wr (hc_lo hj) (Nat.le_of_ble_eq_true rfl) h0 h1, zu_qI, hs_lo hj]
theorem hr_hi (hj : j < 14) (h0 : 0 ≤ i) (h1 : i < 10) : ab_ard rom 0 (HH c r g) (pl j + 2) (qI i) = some (qI ((c.net j).hi i)) := zx_rd (hc_hi hj) (Nat.le_of_ble_eq_true rfl) h0 h1
theorem hs_hi (hj : j < 14) (zf : Int → Int) : (HH c r g).set (pl j + 2) (.inl (0, zr 10 (fun k => qI (zf k)))) = HH { c with net := zn c.net j { c.net j with hi := zf } } r g := by
  match j, hj with
  | 0, _ => rfl
  | 1, _ => rfl
  | 2, _ => rfl
  | 3, _ => rfl
  | 4, _ => rfl
  | 5, _ => rfl
  | 6, _ => rfl
  | 7, _ => rfl
  | 8, _ => rfl
  | 9, _ => rfl
  | 10, _ => rfl
  | 11, _ => rfl
  | 12, _ => rfl
  | 13, _ => rfl
  | (q + 14), hj => exact absurd hj (by omega)
theorem hw_hi (hj : j < 14) (h0 : 0 ≤ i) (h1 : i < 10) : ab_awr 0 (HH c r g) (pl j + 2) (qI i) (qI (v)) = some (HH { c with net := zn c.net j { c.net j with hi := zu (c.net j).hi i v } } r g) := by rw [zx_wr (hc_hi hj) (Nat.le_of_ble_eq_true rfl) h0 h1, zu_qI, hs_hi hj]
theorem hr_lab (hj : j < 14) (h0 : 0 ≤ i) (h1 : i < 7) : ab_ard rom 0 (HH c r g) (pl j + 3) (qI i) = some (qI ((c.net j).lab i)) := zx_rd (hc_lab hj) (Nat.le_of_ble_eq_true rfl) h0 h1
theorem hs_lab (hj : j < 14) (zf : Int → Int) : (HH c r g).set (pl j + 3) (.inl (0, zr 7 (fun k => qI (zf k)))) = HH { c with net := zn c.net j { c.net j with lab := zf } } r g := by
  match j, hj with
  | 0, _ => rfl
  | 1, _ => rfl
  | 2, _ => rfl
  | 3, _ => rfl
  | 4, _ => rfl
  | 5, _ => rfl
  | 6, _ => rfl
  | 7, _ => rfl
  | 8, _ => rfl
  | 9, _ => rfl
  | 10, _ => rfl
  | 11, _ => rfl
  | 12, _ => rfl
  | 13, _ => rfl
  | (q + 14), hj => exact absurd hj (by omega)
theorem hw_lab (hj : j < 14) (h0 : 0 ≤ i) (h1 : i < 7) : ab_awr 0 (HH c r g) (pl j + 3) (qI i) (qI (v)) = some (HH { c with net := zn c.net j { c.net j with lab := zu (c.net j).lab i v } } r g) := by rw [zx_wr (hc_lab hj) (Nat.le_of_ble_eq_true rfl) h0 h1, zu_qI, hs_lab hj]
theorem hr_bes (hj : j < 14) (h0 : 0 ≤ i) (h1 : i < 7) : ab_ard rom 0 (HH c r g) (pl j + 4) (qI i) = some ((c.net j).bes i) := zx_rd (hc_bes hj) (Nat.le_of_ble_eq_true rfl) h0 h1
theorem hs_bes (hj : j < 14) (zf : Int → Int32) : (HH c r g).set (pl j + 4) (.inl (0, zr 7 (fun k => zf k))) = HH { c with net := zn c.net j { c.net j with bes := zf } } r g := by
  match j, hj with
  | 0, _ => rfl
  | 1, _ => rfl
  | 2, _ => rfl
  | 3, _ => rfl
  | 4, _ => rfl
  | 5, _ => rfl
  | 6, _ => rfl
  | 7, _ => rfl
  | 8, _ => rfl
  | 9, _ => rfl
  | 10, _ => rfl
  | 11, _ => rfl
  | 12, _ => rfl
  | 13, _ => rfl
  | (q + 14), hj => exact absurd hj (by omega)
theorem hw_bes (hj : j < 14) (h0 : 0 ≤ i) (h1 : i < 7) : ab_awr 0 (HH c r g) (pl j + 4) (qI i) (u) = some (HH { c with net := zn c.net j { c.net j with bes := zu (c.net j).bes i u } } r g) := by rw [zx_wr (hc_bes hj) (Nat.le_of_ble_eq_true rfl) h0 h1, zu_S, hs_bes hj]
theorem hs_n (hj : j < 14) (x y : Int) : (HH c r g).set (pl j) (.inr (.inr (1, [.int (qI x), .int (qI y), .ref (pl j + 1), .ref (pl j + 2), .ref (pl j + 3), .ref (pl j + 4)]))) = HH { c with net := zn c.net j { c.net j with n := x, m := y } } r g := by
  match j, hj with
  | 0, _ => rfl
  | 1, _ => rfl
  | 2, _ => rfl
  | 3, _ => rfl
  | 4, _ => rfl
  | 5, _ => rfl
  | 6, _ => rfl
  | 7, _ => rfl
  | 8, _ => rfl
  | 9, _ => rfl
  | 10, _ => rfl
  | 11, _ => rfl
  | 12, _ => rfl
  | 13, _ => rfl
  | (q + 14), hj => exact absurd hj (by omega)
theorem hp_nn (hj : j < 14) : ab_fpt (HH c r g) (pl j) 1 0 (.int (qI v)) = some (HH { c with net := zn c.net j { c.net j with n := v } } r g) := by
  rw [ab_fpt_at (hc_n hj) (Nat.le_of_ble_eq_true rfl)]
  exact congrArg some (hs_n hj v (c.net j).m)
theorem hp_nm (hj : j < 14) : ab_fpt (HH c r g) (pl j) 1 1 (.int (qI v)) = some (HH { c with net := zn c.net j { c.net j with m := v } } r g) := by
  rw [ab_fpt_at (hc_n hj) (Nat.le_of_ble_eq_true rfl)]
  exact congrArg some (hs_n hj (c.net j).n v)
theorem hq_slot (h0 : 0 ≤ i) (h1 : i < 3) : ab_rrd (HH c r g) 5 (qI i) = some (pl i.toNat) := by
  have e : i = 0 ∨ i = 1 ∨ i = 2 := by omega
  rcases e with e | e | e <;> subst e <;> rfl
theorem hq_past (h0 : 0 ≤ i) (h1 : i < 10) : ab_rrd (HH c r g) 28 (qI i) = some (pl (4 + i.toNat)) := by
  have e : i = 0 ∨ i = 1 ∨ i = 2 ∨ i = 3 ∨ i = 4 ∨ i = 5 ∨ i = 6 ∨ i = 7 ∨ i = 8 ∨ i = 9 := by omega
  rcases e with e | e | e | e | e | e | e | e | e | e <;> subst e <;> rfl
end
