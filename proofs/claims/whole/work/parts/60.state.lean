/-! THE HEAP AS TWO RECORDS (printed by wip/whole/gen_state.py) -/
def zr (n : Nat) (f : Int → Int32) : List Int32 := (List.range n).map (fun (k : Nat) => f (k : Int))
def zu {α : Type} (f : Int → α) (i : Int) (v : α) : Int → α := fun j => if j = i then v else f j
def zn {α : Type} (f : Nat → α) (i : Nat) (v : α) : Nat → α := fun j => if j = i then v else f j
theorem zr_len (n : Nat) (f : Int → Int32) : (zr n f).length = n := by unfold zr; rw [List.length_map, List.length_range]
theorem zr_get {n k : Nat} (f : Int → Int32) (h : k < n) : (zr n f)[k]? = some (f (k : Int)) := by
  unfold zr
  rw [List.getElem?_map, List.getElem?_range h]
  rfl
theorem zr_set {n k : Nat} (f : Int → Int32) (v : Int32) (h : k < n) : (zr n f).set k v = zr n (zu f (k : Int) v) := by
  apply List.ext_getElem?
  intro i
  by_cases hi : i < n
  · rw [List.getElem?_set, zr_get _ hi, zr_get _ hi, zr_len]
    unfold zu
    by_cases e : k = i
    · subst e
      rw [if_pos rfl, if_pos h, if_pos rfl]
    · rw [if_neg e, if_neg (by omega)]
  · rw [List.getElem?_eq_none (by rw [List.length_set, zr_len]; omega), List.getElem?_eq_none (by rw [zr_len]; omega)]
theorem zr_const (n : Nat) (v : Int32) : List.replicate n v = zr n (fun _ => v) := by
  unfold zr
  rw [List.map_const', List.length_range]
theorem zu_qI (f : Int → Int) (i v : Int) : zu (fun k => qI (f k)) i (qI v) = fun k => qI (zu f i v k) := by
  funext j
  unfold zu
  by_cases h : j = i
  · rw [if_pos h, if_pos h]
  · rw [if_neg h, if_neg h]
theorem zu_qB (f : Int → Bool) (i : Int) (v : Bool) : zu (fun k => qB (f k)) i (qB v) = fun k => qB (zu f i v k) := by
  funext j
  unfold zu
  by_cases h : j = i
  · rw [if_pos h, if_pos h]
  · rw [if_neg h, if_neg h]
theorem zu_S (f : Int → Int32) (i : Int) (v : Int32) : zu (fun k => f k) i v = fun k => zu f i v k := rfl
theorem zu_same {α : Type} (f : Int → α) (i : Int) (v : α) : zu f i v i = v := if_pos rfl
theorem zu_ne {α : Type} (f : Int → α) {i j : Int} (v : α) (h : j ≠ i) : zu f i v j = f j := if_neg h
theorem zn_same {α : Type} (f : Nat → α) (i : Nat) (v : α) : zn f i v i = v := if_pos rfl
theorem zn_ne {α : Type} (f : Nat → α) {i j : Nat} (v : α) (h : j ≠ i) : zn f i v j = f j := if_neg h
theorem zu_zu {α : Type} (f : Int → α) (i : Int) (v u : α) : zu (zu f i v) i u = zu f i u := by
  funext j
  unfold zu
  by_cases h : j = i
  · rw [if_pos h, if_pos h]
  · rw [if_neg h, if_neg h, if_neg h]
theorem zn_zn {α : Type} (f : Nat → α) (i : Nat) (v u : α) : zn (zn f i v) i u = zn f i u := by
  funext j
  unfold zn
  by_cases h : j = i
  · rw [if_pos h, if_pos h]
  · rw [if_neg h, if_neg h, if_neg h]
theorem zu_id {α : Type} (f : Int → α) (i : Int) : zu f i (f i) = f := by
  funext j
  unfold zu
  by_cases h : j = i
  · rw [if_pos h, h]
  · rw [if_neg h]
theorem zn_id {α : Type} (f : Nat → α) (i : Nat) : zn f i (f i) = f := by
  funext j
  unfold zn
  by_cases h : j = i
  · rw [if_pos h, h]
  · rw [if_neg h]
theorem zx_rd {rom : List (List Int32)} {hp : ab_H} {t a n : Nat} {f : Int → Int32} {i : Int} (h : hp[a]? = some (.inl (t, zr n f))) (hn : n ≤ 1000) (h0 : 0 ≤ i) (h1 : i < n) : ab_ard rom t hp a (qI i) = some (f i) := by
  rw [ab_ard_at h h0 (by omega), zr_get _ (by omega), Int.toNat_of_nonneg h0]
theorem zx_wr {hp : ab_H} {t a n : Nat} {f : Int → Int32} {i : Int} {v : Int32} (h : hp[a]? = some (.inl (t, zr n f))) (hn : n ≤ 1000) (h0 : 0 ≤ i) (h1 : i < n) : ab_awr t hp a (qI i) v = some (hp.set a (.inl (t, zr n (zu f i v)))) := by
  rw [ab_awr_at h h0 (by rw [zr_len]; omega) (by omega), zr_set _ _ (by omega), Int.toNat_of_nonneg h0]
theorem zx_ln {rom : List (List Int32)} {hp : ab_H} {a n : Nat} {f : Int → Int32} (h : hp[a]? = some (.inl (0, zr n f))) : ab_aln rom hp a = some (qI n) := by
  rw [ab_aln_at h, zr_len]
def NR : Type := Int × Int × (Int → Int) × (Int → Int) × (Int → Int) × (Int → Int32)
def NR.mk (n : Int) (m : Int) (lo : Int → Int) (hi : Int → Int) (lab : Int → Int) (bes : Int → Int32) : NR := (n, m, lo, hi, lab, bes)
def NR.n (x : NR) : Int := x.1
def NR.m (x : NR) : Int := x.2.1
def NR.lo (x : NR) : Int → Int := x.2.2.1
def NR.hi (x : NR) : Int → Int := x.2.2.2.1
def NR.lab (x : NR) : Int → Int := x.2.2.2.2.1
def NR.bes (x : NR) : Int → Int32 := x.2.2.2.2.2
theorem NR.n_mk (n : Int) (m : Int) (lo : Int → Int) (hi : Int → Int) (lab : Int → Int) (bes : Int → Int32) : (NR.mk n m lo hi lab bes).n = n := rfl
theorem NR.m_mk (n : Int) (m : Int) (lo : Int → Int) (hi : Int → Int) (lab : Int → Int) (bes : Int → Int32) : (NR.mk n m lo hi lab bes).m = m := rfl
theorem NR.lo_mk (n : Int) (m : Int) (lo : Int → Int) (hi : Int → Int) (lab : Int → Int) (bes : Int → Int32) : (NR.mk n m lo hi lab bes).lo = lo := rfl
theorem NR.hi_mk (n : Int) (m : Int) (lo : Int → Int) (hi : Int → Int) (lab : Int → Int) (bes : Int → Int32) : (NR.mk n m lo hi lab bes).hi = hi := rfl
theorem NR.lab_mk (n : Int) (m : Int) (lo : Int → Int) (hi : Int → Int) (lab : Int → Int) (bes : Int → Int32) : (NR.mk n m lo hi lab bes).lab = lab := rfl
theorem NR.bes_mk (n : Int) (m : Int) (lo : Int → Int) (hi : Int → Int) (lab : Int → Int) (bes : Int → Int32) : (NR.mk n m lo hi lab bes).bes = bes := rfl
theorem NR.eta (x : NR) : NR.mk x.n x.m x.lo x.hi x.lab x.bes = x := rfl
def Tp : Type := (Int → Int) × Int
def Tp.mk (B : Int → Int) (L : Int) : Tp := (B, L)
def Tp.B (x : Tp) : Int → Int := x.1
def Tp.L (x : Tp) : Int := x.2
theorem Tp.B_mk (B : Int → Int) (L : Int) : (Tp.mk B L).B = B := rfl
theorem Tp.L_mk (B : Int → Int) (L : Int) : (Tp.mk B L).L = L := rfl
theorem Tp.eta (x : Tp) : Tp.mk x.B x.L = x := rfl
def Rd : Type := Int × Int × Int × Int × Int × Int
def Rd.mk (fn : Int) (fp : Int) (nx : Int) (st : Int) (tk : Int) (vl : Int) : Rd := (fn, fp, nx, st, tk, vl)
def Rd.fn (x : Rd) : Int := x.1
def Rd.fp (x : Rd) : Int := x.2.1
def Rd.nx (x : Rd) : Int := x.2.2.1
def Rd.st (x : Rd) : Int := x.2.2.2.1
def Rd.tk (x : Rd) : Int := x.2.2.2.2.1
def Rd.vl (x : Rd) : Int := x.2.2.2.2.2
theorem Rd.fn_mk (fn : Int) (fp : Int) (nx : Int) (st : Int) (tk : Int) (vl : Int) : (Rd.mk fn fp nx st tk vl).fn = fn := rfl
theorem Rd.fp_mk (fn : Int) (fp : Int) (nx : Int) (st : Int) (tk : Int) (vl : Int) : (Rd.mk fn fp nx st tk vl).fp = fp := rfl
theorem Rd.nx_mk (fn : Int) (fp : Int) (nx : Int) (st : Int) (tk : Int) (vl : Int) : (Rd.mk fn fp nx st tk vl).nx = nx := rfl
theorem Rd.st_mk (fn : Int) (fp : Int) (nx : Int) (st : Int) (tk : Int) (vl : Int) : (Rd.mk fn fp nx st tk vl).st = st := rfl
theorem Rd.tk_mk (fn : Int) (fp : Int) (nx : Int) (st : Int) (tk : Int) (vl : Int) : (Rd.mk fn fp nx st tk vl).tk = tk := rfl
theorem Rd.vl_mk (fn : Int) (fp : Int) (nx : Int) (st : Int) (tk : Int) (vl : Int) : (Rd.mk fn fp nx st tk vl).vl = vl := rfl
theorem Rd.eta (x : Rd) : Rd.mk x.fn x.fp x.nx x.st x.tk x.vl = x := rfl
def Pa : Type := Int × Int × (Int → Int)
def Pa.mk (acts : Int) (new : Int) (sl : Int → Int) : Pa := (acts, new, sl)
def Pa.acts (x : Pa) : Int := x.1
def Pa.new (x : Pa) : Int := x.2.1
def Pa.sl (x : Pa) : Int → Int := x.2.2
theorem Pa.acts_mk (acts : Int) (new : Int) (sl : Int → Int) : (Pa.mk acts new sl).acts = acts := rfl
theorem Pa.new_mk (acts : Int) (new : Int) (sl : Int → Int) : (Pa.mk acts new sl).new = new := rfl
theorem Pa.sl_mk (acts : Int) (new : Int) (sl : Int → Int) : (Pa.mk acts new sl).sl = sl := rfl
theorem Pa.eta (x : Pa) : Pa.mk x.acts x.new x.sl = x := rfl
def Se : Type := (Int → Int) × (Int → Int) × (Int → Int) × (Int → Int) × Nat × Int × Int × Int × Int × Int32 × Int × Bool × Bool × Bool
def Se.mk (lab : Int → Int) (uses : Int → Int) (ord : Int → Int) (shi : Int → Int) (net : Nat) (kind : Int) (top : Int) (rep : Int) (all : Int) (wor : Int32) (many : Int) (any : Bool) (one : Bool) (stop : Bool) : Se := (lab, uses, ord, shi, net, kind, top, rep, all, wor, many, any, one, stop)
def Se.lab (x : Se) : Int → Int := x.1
def Se.uses (x : Se) : Int → Int := x.2.1
def Se.ord (x : Se) : Int → Int := x.2.2.1
def Se.shi (x : Se) : Int → Int := x.2.2.2.1
def Se.net (x : Se) : Nat := x.2.2.2.2.1
def Se.kind (x : Se) : Int := x.2.2.2.2.2.1
def Se.top (x : Se) : Int := x.2.2.2.2.2.2.1
def Se.rep (x : Se) : Int := x.2.2.2.2.2.2.2.1
def Se.all (x : Se) : Int := x.2.2.2.2.2.2.2.2.1
def Se.wor (x : Se) : Int32 := x.2.2.2.2.2.2.2.2.2.1
def Se.many (x : Se) : Int := x.2.2.2.2.2.2.2.2.2.2.1
def Se.any (x : Se) : Bool := x.2.2.2.2.2.2.2.2.2.2.2.1
def Se.one (x : Se) : Bool := x.2.2.2.2.2.2.2.2.2.2.2.2.1
def Se.stop (x : Se) : Bool := x.2.2.2.2.2.2.2.2.2.2.2.2.2
theorem Se.lab_mk (lab : Int → Int) (uses : Int → Int) (ord : Int → Int) (shi : Int → Int) (net : Nat) (kind : Int) (top : Int) (rep : Int) (all : Int) (wor : Int32) (many : Int) (any : Bool) (one : Bool) (stop : Bool) : (Se.mk lab uses ord shi net kind top rep all wor many any one stop).lab = lab := rfl
theorem Se.uses_mk (lab : Int → Int) (uses : Int → Int) (ord : Int → Int) (shi : Int → Int) (net : Nat) (kind : Int) (top : Int) (rep : Int) (all : Int) (wor : Int32) (many : Int) (any : Bool) (one : Bool) (stop : Bool) : (Se.mk lab uses ord shi net kind top rep all wor many any one stop).uses = uses := rfl
theorem Se.ord_mk (lab : Int → Int) (uses : Int → Int) (ord : Int → Int) (shi : Int → Int) (net : Nat) (kind : Int) (top : Int) (rep : Int) (all : Int) (wor : Int32) (many : Int) (any : Bool) (one : Bool) (stop : Bool) : (Se.mk lab uses ord shi net kind top rep all wor many any one stop).ord = ord := rfl
theorem Se.shi_mk (lab : Int → Int) (uses : Int → Int) (ord : Int → Int) (shi : Int → Int) (net : Nat) (kind : Int) (top : Int) (rep : Int) (all : Int) (wor : Int32) (many : Int) (any : Bool) (one : Bool) (stop : Bool) : (Se.mk lab uses ord shi net kind top rep all wor many any one stop).shi = shi := rfl
theorem Se.net_mk (lab : Int → Int) (uses : Int → Int) (ord : Int → Int) (shi : Int → Int) (net : Nat) (kind : Int) (top : Int) (rep : Int) (all : Int) (wor : Int32) (many : Int) (any : Bool) (one : Bool) (stop : Bool) : (Se.mk lab uses ord shi net kind top rep all wor many any one stop).net = net := rfl
theorem Se.kind_mk (lab : Int → Int) (uses : Int → Int) (ord : Int → Int) (shi : Int → Int) (net : Nat) (kind : Int) (top : Int) (rep : Int) (all : Int) (wor : Int32) (many : Int) (any : Bool) (one : Bool) (stop : Bool) : (Se.mk lab uses ord shi net kind top rep all wor many any one stop).kind = kind := rfl
theorem Se.top_mk (lab : Int → Int) (uses : Int → Int) (ord : Int → Int) (shi : Int → Int) (net : Nat) (kind : Int) (top : Int) (rep : Int) (all : Int) (wor : Int32) (many : Int) (any : Bool) (one : Bool) (stop : Bool) : (Se.mk lab uses ord shi net kind top rep all wor many any one stop).top = top := rfl
theorem Se.rep_mk (lab : Int → Int) (uses : Int → Int) (ord : Int → Int) (shi : Int → Int) (net : Nat) (kind : Int) (top : Int) (rep : Int) (all : Int) (wor : Int32) (many : Int) (any : Bool) (one : Bool) (stop : Bool) : (Se.mk lab uses ord shi net kind top rep all wor many any one stop).rep = rep := rfl
theorem Se.all_mk (lab : Int → Int) (uses : Int → Int) (ord : Int → Int) (shi : Int → Int) (net : Nat) (kind : Int) (top : Int) (rep : Int) (all : Int) (wor : Int32) (many : Int) (any : Bool) (one : Bool) (stop : Bool) : (Se.mk lab uses ord shi net kind top rep all wor many any one stop).all = all := rfl
theorem Se.wor_mk (lab : Int → Int) (uses : Int → Int) (ord : Int → Int) (shi : Int → Int) (net : Nat) (kind : Int) (top : Int) (rep : Int) (all : Int) (wor : Int32) (many : Int) (any : Bool) (one : Bool) (stop : Bool) : (Se.mk lab uses ord shi net kind top rep all wor many any one stop).wor = wor := rfl
theorem Se.many_mk (lab : Int → Int) (uses : Int → Int) (ord : Int → Int) (shi : Int → Int) (net : Nat) (kind : Int) (top : Int) (rep : Int) (all : Int) (wor : Int32) (many : Int) (any : Bool) (one : Bool) (stop : Bool) : (Se.mk lab uses ord shi net kind top rep all wor many any one stop).many = many := rfl
theorem Se.any_mk (lab : Int → Int) (uses : Int → Int) (ord : Int → Int) (shi : Int → Int) (net : Nat) (kind : Int) (top : Int) (rep : Int) (all : Int) (wor : Int32) (many : Int) (any : Bool) (one : Bool) (stop : Bool) : (Se.mk lab uses ord shi net kind top rep all wor many any one stop).any = any := rfl
theorem Se.one_mk (lab : Int → Int) (uses : Int → Int) (ord : Int → Int) (shi : Int → Int) (net : Nat) (kind : Int) (top : Int) (rep : Int) (all : Int) (wor : Int32) (many : Int) (any : Bool) (one : Bool) (stop : Bool) : (Se.mk lab uses ord shi net kind top rep all wor many any one stop).one = one := rfl
theorem Se.stop_mk (lab : Int → Int) (uses : Int → Int) (ord : Int → Int) (shi : Int → Int) (net : Nat) (kind : Int) (top : Int) (rep : Int) (all : Int) (wor : Int32) (many : Int) (any : Bool) (one : Bool) (stop : Bool) : (Se.mk lab uses ord shi net kind top rep all wor many any one stop).stop = stop := rfl
theorem Se.eta (x : Se) : Se.mk x.lab x.uses x.ord x.shi x.net x.kind x.top x.rep x.all x.wor x.many x.any x.one x.stop = x := rfl
def Ce : Type := Int × (Int → Int32) × Int × (Int → Int) × Bool × (Int → Int) × (Int → Int)
def Ce.mk (found : Int) (ats : Int → Int32) (wat : Int) (tal : Int → Int) (cmp : Bool) (tar : Int → Int) (agr : Int → Int) : Ce := (found, ats, wat, tal, cmp, tar, agr)
def Ce.found (x : Ce) : Int := x.1
def Ce.ats (x : Ce) : Int → Int32 := x.2.1
def Ce.wat (x : Ce) : Int := x.2.2.1
def Ce.tal (x : Ce) : Int → Int := x.2.2.2.1
def Ce.cmp (x : Ce) : Bool := x.2.2.2.2.1
def Ce.tar (x : Ce) : Int → Int := x.2.2.2.2.2.1
def Ce.agr (x : Ce) : Int → Int := x.2.2.2.2.2.2
theorem Ce.found_mk (found : Int) (ats : Int → Int32) (wat : Int) (tal : Int → Int) (cmp : Bool) (tar : Int → Int) (agr : Int → Int) : (Ce.mk found ats wat tal cmp tar agr).found = found := rfl
theorem Ce.ats_mk (found : Int) (ats : Int → Int32) (wat : Int) (tal : Int → Int) (cmp : Bool) (tar : Int → Int) (agr : Int → Int) : (Ce.mk found ats wat tal cmp tar agr).ats = ats := rfl
theorem Ce.wat_mk (found : Int) (ats : Int → Int32) (wat : Int) (tal : Int → Int) (cmp : Bool) (tar : Int → Int) (agr : Int → Int) : (Ce.mk found ats wat tal cmp tar agr).wat = wat := rfl
theorem Ce.tal_mk (found : Int) (ats : Int → Int32) (wat : Int) (tal : Int → Int) (cmp : Bool) (tar : Int → Int) (agr : Int → Int) : (Ce.mk found ats wat tal cmp tar agr).tal = tal := rfl
theorem Ce.cmp_mk (found : Int) (ats : Int → Int32) (wat : Int) (tal : Int → Int) (cmp : Bool) (tar : Int → Int) (agr : Int → Int) : (Ce.mk found ats wat tal cmp tar agr).cmp = cmp := rfl
theorem Ce.tar_mk (found : Int) (ats : Int → Int32) (wat : Int) (tal : Int → Int) (cmp : Bool) (tar : Int → Int) (agr : Int → Int) : (Ce.mk found ats wat tal cmp tar agr).tar = tar := rfl
theorem Ce.agr_mk (found : Int) (ats : Int → Int32) (wat : Int) (tal : Int → Int) (cmp : Bool) (tar : Int → Int) (agr : Int → Int) : (Ce.mk found ats wat tal cmp tar agr).agr = agr := rfl
theorem Ce.eta (x : Ce) : Ce.mk x.found x.ats x.wat x.tal x.cmp x.tar x.agr = x := rfl
def Cl : Type := (Nat → NR) × Tp × Tp × Rd × Pa × Se × Ce × (Int → Int) × (Int → Int) × Int × Int
def Cl.mk (net : Nat → NR) (tp : Tp) (ou : Tp) (rd : Rd) (pa : Pa) (se : Se) (ce : Ce) (mks : Int → Int) (ga : Int → Int) (fn : Int) (fp : Int) : Cl := (net, tp, ou, rd, pa, se, ce, mks, ga, fn, fp)
def Cl.net (x : Cl) : Nat → NR := x.1
def Cl.tp (x : Cl) : Tp := x.2.1
def Cl.ou (x : Cl) : Tp := x.2.2.1
def Cl.rd (x : Cl) : Rd := x.2.2.2.1
def Cl.pa (x : Cl) : Pa := x.2.2.2.2.1
def Cl.se (x : Cl) : Se := x.2.2.2.2.2.1
def Cl.ce (x : Cl) : Ce := x.2.2.2.2.2.2.1
def Cl.mks (x : Cl) : Int → Int := x.2.2.2.2.2.2.2.1
def Cl.ga (x : Cl) : Int → Int := x.2.2.2.2.2.2.2.2.1
def Cl.fn (x : Cl) : Int := x.2.2.2.2.2.2.2.2.2.1
def Cl.fp (x : Cl) : Int := x.2.2.2.2.2.2.2.2.2.2
theorem Cl.net_mk (net : Nat → NR) (tp : Tp) (ou : Tp) (rd : Rd) (pa : Pa) (se : Se) (ce : Ce) (mks : Int → Int) (ga : Int → Int) (fn : Int) (fp : Int) : (Cl.mk net tp ou rd pa se ce mks ga fn fp).net = net := rfl
theorem Cl.tp_mk (net : Nat → NR) (tp : Tp) (ou : Tp) (rd : Rd) (pa : Pa) (se : Se) (ce : Ce) (mks : Int → Int) (ga : Int → Int) (fn : Int) (fp : Int) : (Cl.mk net tp ou rd pa se ce mks ga fn fp).tp = tp := rfl
theorem Cl.ou_mk (net : Nat → NR) (tp : Tp) (ou : Tp) (rd : Rd) (pa : Pa) (se : Se) (ce : Ce) (mks : Int → Int) (ga : Int → Int) (fn : Int) (fp : Int) : (Cl.mk net tp ou rd pa se ce mks ga fn fp).ou = ou := rfl
theorem Cl.rd_mk (net : Nat → NR) (tp : Tp) (ou : Tp) (rd : Rd) (pa : Pa) (se : Se) (ce : Ce) (mks : Int → Int) (ga : Int → Int) (fn : Int) (fp : Int) : (Cl.mk net tp ou rd pa se ce mks ga fn fp).rd = rd := rfl
theorem Cl.pa_mk (net : Nat → NR) (tp : Tp) (ou : Tp) (rd : Rd) (pa : Pa) (se : Se) (ce : Ce) (mks : Int → Int) (ga : Int → Int) (fn : Int) (fp : Int) : (Cl.mk net tp ou rd pa se ce mks ga fn fp).pa = pa := rfl
theorem Cl.se_mk (net : Nat → NR) (tp : Tp) (ou : Tp) (rd : Rd) (pa : Pa) (se : Se) (ce : Ce) (mks : Int → Int) (ga : Int → Int) (fn : Int) (fp : Int) : (Cl.mk net tp ou rd pa se ce mks ga fn fp).se = se := rfl
theorem Cl.ce_mk (net : Nat → NR) (tp : Tp) (ou : Tp) (rd : Rd) (pa : Pa) (se : Se) (ce : Ce) (mks : Int → Int) (ga : Int → Int) (fn : Int) (fp : Int) : (Cl.mk net tp ou rd pa se ce mks ga fn fp).ce = ce := rfl
theorem Cl.mks_mk (net : Nat → NR) (tp : Tp) (ou : Tp) (rd : Rd) (pa : Pa) (se : Se) (ce : Ce) (mks : Int → Int) (ga : Int → Int) (fn : Int) (fp : Int) : (Cl.mk net tp ou rd pa se ce mks ga fn fp).mks = mks := rfl
theorem Cl.ga_mk (net : Nat → NR) (tp : Tp) (ou : Tp) (rd : Rd) (pa : Pa) (se : Se) (ce : Ce) (mks : Int → Int) (ga : Int → Int) (fn : Int) (fp : Int) : (Cl.mk net tp ou rd pa se ce mks ga fn fp).ga = ga := rfl
theorem Cl.fn_mk (net : Nat → NR) (tp : Tp) (ou : Tp) (rd : Rd) (pa : Pa) (se : Se) (ce : Ce) (mks : Int → Int) (ga : Int → Int) (fn : Int) (fp : Int) : (Cl.mk net tp ou rd pa se ce mks ga fn fp).fn = fn := rfl
theorem Cl.fp_mk (net : Nat → NR) (tp : Tp) (ou : Tp) (rd : Rd) (pa : Pa) (se : Se) (ce : Ce) (mks : Int → Int) (ga : Int → Int) (fn : Int) (fp : Int) : (Cl.mk net tp ou rd pa se ce mks ga fn fp).fp = fp := rfl
theorem Cl.eta (x : Cl) : Cl.mk x.net x.tp x.ou x.rd x.pa x.se x.ce x.mks x.ga x.fn x.fp = x := rfl
def Ps : Type := Int × Int × Int × Int × Int × Int × Bool
def Ps.mk (fk : Int) (fp : Int) (spot : Int) (beg : Int) (tok : Int) (val : Int) (bad : Bool) : Ps := (fk, fp, spot, beg, tok, val, bad)
def Ps.fk (x : Ps) : Int := x.1
def Ps.fp (x : Ps) : Int := x.2.1
def Ps.spot (x : Ps) : Int := x.2.2.1
def Ps.beg (x : Ps) : Int := x.2.2.2.1
def Ps.tok (x : Ps) : Int := x.2.2.2.2.1
def Ps.val (x : Ps) : Int := x.2.2.2.2.2.1
def Ps.bad (x : Ps) : Bool := x.2.2.2.2.2.2
theorem Ps.fk_mk (fk : Int) (fp : Int) (spot : Int) (beg : Int) (tok : Int) (val : Int) (bad : Bool) : (Ps.mk fk fp spot beg tok val bad).fk = fk := rfl
theorem Ps.fp_mk (fk : Int) (fp : Int) (spot : Int) (beg : Int) (tok : Int) (val : Int) (bad : Bool) : (Ps.mk fk fp spot beg tok val bad).fp = fp := rfl
theorem Ps.spot_mk (fk : Int) (fp : Int) (spot : Int) (beg : Int) (tok : Int) (val : Int) (bad : Bool) : (Ps.mk fk fp spot beg tok val bad).spot = spot := rfl
theorem Ps.beg_mk (fk : Int) (fp : Int) (spot : Int) (beg : Int) (tok : Int) (val : Int) (bad : Bool) : (Ps.mk fk fp spot beg tok val bad).beg = beg := rfl
theorem Ps.tok_mk (fk : Int) (fp : Int) (spot : Int) (beg : Int) (tok : Int) (val : Int) (bad : Bool) : (Ps.mk fk fp spot beg tok val bad).tok = tok := rfl
theorem Ps.val_mk (fk : Int) (fp : Int) (spot : Int) (beg : Int) (tok : Int) (val : Int) (bad : Bool) : (Ps.mk fk fp spot beg tok val bad).val = val := rfl
theorem Ps.bad_mk (fk : Int) (fp : Int) (spot : Int) (beg : Int) (tok : Int) (val : Int) (bad : Bool) : (Ps.mk fk fp spot beg tok val bad).bad = bad := rfl
theorem Ps.eta (x : Ps) : Ps.mk x.fk x.fp x.spot x.beg x.tok x.val x.bad = x := rfl
def Ln : Type := (Int → Int) × (Int → Int) × Int
def Ln.mk (A : Int → Int) (B : Int → Int) (many : Int) : Ln := (A, B, many)
def Ln.A (x : Ln) : Int → Int := x.1
def Ln.B (x : Ln) : Int → Int := x.2.1
def Ln.many (x : Ln) : Int := x.2.2
theorem Ln.A_mk (A : Int → Int) (B : Int → Int) (many : Int) : (Ln.mk A B many).A = A := rfl
theorem Ln.B_mk (A : Int → Int) (B : Int → Int) (many : Int) : (Ln.mk A B many).B = B := rfl
theorem Ln.many_mk (A : Int → Int) (B : Int → Int) (many : Int) : (Ln.mk A B many).many = many := rfl
theorem Ln.eta (x : Ln) : Ln.mk x.A x.B x.many = x := rfl
def Lb : Type := (Int → Int) × Int × Bool
def Lb.mk (lab : Int → Int) (n : Int) (tree : Bool) : Lb := (lab, n, tree)
def Lb.lab (x : Lb) : Int → Int := x.1
def Lb.n (x : Lb) : Int := x.2.1
def Lb.tree (x : Lb) : Bool := x.2.2
theorem Lb.lab_mk (lab : Int → Int) (n : Int) (tree : Bool) : (Lb.mk lab n tree).lab = lab := rfl
theorem Lb.n_mk (lab : Int → Int) (n : Int) (tree : Bool) : (Lb.mk lab n tree).n = n := rfl
theorem Lb.tree_mk (lab : Int → Int) (n : Int) (tree : Bool) : (Lb.mk lab n tree).tree = tree := rfl
theorem Lb.eta (x : Lb) : Lb.mk x.lab x.n x.tree = x := rfl
def Sk : Type := (Int → Int) × (Int → Int32) × Int × Int × Int
def Sk.mk (want : Int → Int) (hav : Int → Int32) (found : Int) (ends : Int) (unl : Int) : Sk := (want, hav, found, ends, unl)
def Sk.want (x : Sk) : Int → Int := x.1
def Sk.hav (x : Sk) : Int → Int32 := x.2.1
def Sk.found (x : Sk) : Int := x.2.2.1
def Sk.ends (x : Sk) : Int := x.2.2.2.1
def Sk.unl (x : Sk) : Int := x.2.2.2.2
theorem Sk.want_mk (want : Int → Int) (hav : Int → Int32) (found : Int) (ends : Int) (unl : Int) : (Sk.mk want hav found ends unl).want = want := rfl
theorem Sk.hav_mk (want : Int → Int) (hav : Int → Int32) (found : Int) (ends : Int) (unl : Int) : (Sk.mk want hav found ends unl).hav = hav := rfl
theorem Sk.found_mk (want : Int → Int) (hav : Int → Int32) (found : Int) (ends : Int) (unl : Int) : (Sk.mk want hav found ends unl).found = found := rfl
theorem Sk.ends_mk (want : Int → Int) (hav : Int → Int32) (found : Int) (ends : Int) (unl : Int) : (Sk.mk want hav found ends unl).ends = ends := rfl
theorem Sk.unl_mk (want : Int → Int) (hav : Int → Int32) (found : Int) (ends : Int) (unl : Int) : (Sk.mk want hav found ends unl).unl = unl := rfl
theorem Sk.eta (x : Sk) : Sk.mk x.want x.hav x.found x.ends x.unl = x := rfl
def Rf : Type := (Int → Int32) × (Int → Int32) × (Int → Int32) × Int × Tp × Ps × Ln × Lb × Sk × (Int → Int32) × (Int → Int) × (Int → Bool) × Tp
def Rf.mk (row : Int → Int32) (was : Int → Int32) (kept : Int → Int32) (km : Int) (tp : Tp) (ps : Ps) (ln : Ln) (lb : Lb) (sk : Sk) (made : Int → Int32) (num : Int → Int) (seen : Int → Bool) (ou : Tp) : Rf := (row, was, kept, km, tp, ps, ln, lb, sk, made, num, seen, ou)
def Rf.row (x : Rf) : Int → Int32 := x.1
def Rf.was (x : Rf) : Int → Int32 := x.2.1
def Rf.kept (x : Rf) : Int → Int32 := x.2.2.1
def Rf.km (x : Rf) : Int := x.2.2.2.1
def Rf.tp (x : Rf) : Tp := x.2.2.2.2.1
def Rf.ps (x : Rf) : Ps := x.2.2.2.2.2.1
def Rf.ln (x : Rf) : Ln := x.2.2.2.2.2.2.1
def Rf.lb (x : Rf) : Lb := x.2.2.2.2.2.2.2.1
def Rf.sk (x : Rf) : Sk := x.2.2.2.2.2.2.2.2.1
def Rf.made (x : Rf) : Int → Int32 := x.2.2.2.2.2.2.2.2.2.1
def Rf.num (x : Rf) : Int → Int := x.2.2.2.2.2.2.2.2.2.2.1
def Rf.seen (x : Rf) : Int → Bool := x.2.2.2.2.2.2.2.2.2.2.2.1
def Rf.ou (x : Rf) : Tp := x.2.2.2.2.2.2.2.2.2.2.2.2
theorem Rf.row_mk (row : Int → Int32) (was : Int → Int32) (kept : Int → Int32) (km : Int) (tp : Tp) (ps : Ps) (ln : Ln) (lb : Lb) (sk : Sk) (made : Int → Int32) (num : Int → Int) (seen : Int → Bool) (ou : Tp) : (Rf.mk row was kept km tp ps ln lb sk made num seen ou).row = row := rfl
theorem Rf.was_mk (row : Int → Int32) (was : Int → Int32) (kept : Int → Int32) (km : Int) (tp : Tp) (ps : Ps) (ln : Ln) (lb : Lb) (sk : Sk) (made : Int → Int32) (num : Int → Int) (seen : Int → Bool) (ou : Tp) : (Rf.mk row was kept km tp ps ln lb sk made num seen ou).was = was := rfl
theorem Rf.kept_mk (row : Int → Int32) (was : Int → Int32) (kept : Int → Int32) (km : Int) (tp : Tp) (ps : Ps) (ln : Ln) (lb : Lb) (sk : Sk) (made : Int → Int32) (num : Int → Int) (seen : Int → Bool) (ou : Tp) : (Rf.mk row was kept km tp ps ln lb sk made num seen ou).kept = kept := rfl
theorem Rf.km_mk (row : Int → Int32) (was : Int → Int32) (kept : Int → Int32) (km : Int) (tp : Tp) (ps : Ps) (ln : Ln) (lb : Lb) (sk : Sk) (made : Int → Int32) (num : Int → Int) (seen : Int → Bool) (ou : Tp) : (Rf.mk row was kept km tp ps ln lb sk made num seen ou).km = km := rfl
theorem Rf.tp_mk (row : Int → Int32) (was : Int → Int32) (kept : Int → Int32) (km : Int) (tp : Tp) (ps : Ps) (ln : Ln) (lb : Lb) (sk : Sk) (made : Int → Int32) (num : Int → Int) (seen : Int → Bool) (ou : Tp) : (Rf.mk row was kept km tp ps ln lb sk made num seen ou).tp = tp := rfl
theorem Rf.ps_mk (row : Int → Int32) (was : Int → Int32) (kept : Int → Int32) (km : Int) (tp : Tp) (ps : Ps) (ln : Ln) (lb : Lb) (sk : Sk) (made : Int → Int32) (num : Int → Int) (seen : Int → Bool) (ou : Tp) : (Rf.mk row was kept km tp ps ln lb sk made num seen ou).ps = ps := rfl
theorem Rf.ln_mk (row : Int → Int32) (was : Int → Int32) (kept : Int → Int32) (km : Int) (tp : Tp) (ps : Ps) (ln : Ln) (lb : Lb) (sk : Sk) (made : Int → Int32) (num : Int → Int) (seen : Int → Bool) (ou : Tp) : (Rf.mk row was kept km tp ps ln lb sk made num seen ou).ln = ln := rfl
theorem Rf.lb_mk (row : Int → Int32) (was : Int → Int32) (kept : Int → Int32) (km : Int) (tp : Tp) (ps : Ps) (ln : Ln) (lb : Lb) (sk : Sk) (made : Int → Int32) (num : Int → Int) (seen : Int → Bool) (ou : Tp) : (Rf.mk row was kept km tp ps ln lb sk made num seen ou).lb = lb := rfl
theorem Rf.sk_mk (row : Int → Int32) (was : Int → Int32) (kept : Int → Int32) (km : Int) (tp : Tp) (ps : Ps) (ln : Ln) (lb : Lb) (sk : Sk) (made : Int → Int32) (num : Int → Int) (seen : Int → Bool) (ou : Tp) : (Rf.mk row was kept km tp ps ln lb sk made num seen ou).sk = sk := rfl
theorem Rf.made_mk (row : Int → Int32) (was : Int → Int32) (kept : Int → Int32) (km : Int) (tp : Tp) (ps : Ps) (ln : Ln) (lb : Lb) (sk : Sk) (made : Int → Int32) (num : Int → Int) (seen : Int → Bool) (ou : Tp) : (Rf.mk row was kept km tp ps ln lb sk made num seen ou).made = made := rfl
theorem Rf.num_mk (row : Int → Int32) (was : Int → Int32) (kept : Int → Int32) (km : Int) (tp : Tp) (ps : Ps) (ln : Ln) (lb : Lb) (sk : Sk) (made : Int → Int32) (num : Int → Int) (seen : Int → Bool) (ou : Tp) : (Rf.mk row was kept km tp ps ln lb sk made num seen ou).num = num := rfl
theorem Rf.seen_mk (row : Int → Int32) (was : Int → Int32) (kept : Int → Int32) (km : Int) (tp : Tp) (ps : Ps) (ln : Ln) (lb : Lb) (sk : Sk) (made : Int → Int32) (num : Int → Int) (seen : Int → Bool) (ou : Tp) : (Rf.mk row was kept km tp ps ln lb sk made num seen ou).seen = seen := rfl
theorem Rf.ou_mk (row : Int → Int32) (was : Int → Int32) (kept : Int → Int32) (km : Int) (tp : Tp) (ps : Ps) (ln : Ln) (lb : Lb) (sk : Sk) (made : Int → Int32) (num : Int → Int) (seen : Int → Bool) (ou : Tp) : (Rf.mk row was kept km tp ps ln lb sk made num seen ou).ou = ou := rfl
theorem Rf.eta (x : Rf) : Rf.mk x.row x.was x.kept x.km x.tp x.ps x.ln x.lb x.sk x.made x.num x.seen x.ou = x := rfl
/-- the place of a net: 0..2 slots, 3 draft, 4..13 the past -/
def pl (j : Nat) : Nat := if j < 4 then 6 + 5 * j else 10 + 5 * j
def nobj (b : Nat) (N : NR) : ab_C := .inr (.inr (1, [.int (qI N.n), .int (qI N.m), .ref (b + 1), .ref (b + 2), .ref (b + 3), .ref (b + 4)]))
def nlo (N : NR) : ab_C := .inl (0, zr 10 (fun k => qI (N.lo k)))
def nhi (N : NR) : ab_C := .inl (0, zr 10 (fun k => qI (N.hi k)))
def nlab (N : NR) : ab_C := .inl (0, zr 7 (fun k => qI (N.lab k)))
def nbes (N : NR) : ab_C := .inl (0, zr 7 (fun k => N.bes k))
def HH (c : Cl) (r : Rf) (g : ab_H) : ab_H := [.inr (.inr (6, [.ref 1, .ref 26, .ref 3, .ref 5, .ref (pl 3), .ref 27, .ref 80, .ref 90, .ref 91, .int (qI (c.fn)), .int (qI (c.fp))])),
  .inr (.inr (5, [.ref 2, .int (qI (c.tp.L))])),
  .inl (0, zr 400 (fun k => qI (c.tp.B k))),
  .inr (.inr (5, [.ref 4, .int (qI (c.ou.L))])),
  .inl (0, zr 400 (fun k => qI (c.ou.B k))),
  .inr (.inl [some (pl 0), some (pl 1), some (pl 2)]),
  nobj 6 (c.net 0),
  nlo (c.net 0),
  nhi (c.net 0),
  nlab (c.net 0),
  nbes (c.net 0),
  nobj 11 (c.net 1),
  nlo (c.net 1),
  nhi (c.net 1),
  nlab (c.net 1),
  nbes (c.net 1),
  nobj 16 (c.net 2),
  nlo (c.net 2),
  nhi (c.net 2),
  nlab (c.net 2),
  nbes (c.net 2),
  nobj 21 (c.net 3),
  nlo (c.net 3),
  nhi (c.net 3),
  nlab (c.net 3),
  nbes (c.net 3),
  .inr (.inr (3, [.int (qI (c.rd.fn)), .int (qI (c.rd.fp)), .ref 1, .ref (pl 3), .int (qI (c.rd.nx)), .int (qI (c.rd.st)), .int (qI (c.rd.tk)), .int (qI (c.rd.vl))])),
  .inr (.inr (2, [.int (qI (c.pa.acts)), .int (qI (c.pa.new)), .ref 28, .ref 29])),
  .inr (.inl [some (pl 4), some (pl 5), some (pl 6), some (pl 7), some (pl 8), some (pl 9), some (pl 10), some (pl 11), some (pl 12), some (pl 13)]),
  .inl (0, zr 10 (fun k => qI (c.pa.sl k))),
  nobj 30 (c.net 4),
  nlo (c.net 4),
  nhi (c.net 4),
  nlab (c.net 4),
  nbes (c.net 4),
  nobj 35 (c.net 5),
  nlo (c.net 5),
  nhi (c.net 5),
  nlab (c.net 5),
  nbes (c.net 5),
  nobj 40 (c.net 6),
  nlo (c.net 6),
  nhi (c.net 6),
  nlab (c.net 6),
  nbes (c.net 6),
  nobj 45 (c.net 7),
  nlo (c.net 7),
  nhi (c.net 7),
  nlab (c.net 7),
  nbes (c.net 7),
  nobj 50 (c.net 8),
  nlo (c.net 8),
  nhi (c.net 8),
  nlab (c.net 8),
  nbes (c.net 8),
  nobj 55 (c.net 9),
  nlo (c.net 9),
  nhi (c.net 9),
  nlab (c.net 9),
  nbes (c.net 9),
  nobj 60 (c.net 10),
  nlo (c.net 10),
  nhi (c.net 10),
  nlab (c.net 10),
  nbes (c.net 10),
  nobj 65 (c.net 11),
  nlo (c.net 11),
  nhi (c.net 11),
  nlab (c.net 11),
  nbes (c.net 11),
  nobj 70 (c.net 12),
  nlo (c.net 12),
  nhi (c.net 12),
  nlab (c.net 12),
  nbes (c.net 12),
  nobj 75 (c.net 13),
  nlo (c.net 13),
  nhi (c.net 13),
  nlab (c.net 13),
  nbes (c.net 13),
  .inr (.inr (4, [.ref 81, .ref 86, .ref 87, .ref 88, .ref 89, .ref (pl c.se.net), .int (qI (c.se.kind)), .int (qI (c.se.top)), .int (qI (c.se.rep)), .int (qI (c.se.all)), .int (c.se.wor), .int (qI (c.se.many)), .int (qB (c.se.any)), .int (qB (c.se.one)), .int (qB (c.se.stop))])),
  .inr (.inr (0, [.int (qI (c.ce.found)), .ref 82, .int (qI (c.ce.wat)), .ref 83, .int (qB (c.ce.cmp)), .ref 84, .ref 85])),
  .inl (0, zr 7 (fun k => c.ce.ats k)),
  .inl (0, zr 21 (fun k => qI (c.ce.tal k))),
  .inl (0, zr 7 (fun k => qI (c.ce.tar k))),
  .inl (0, zr 128 (fun k => qI (c.ce.agr k))),
  .inl (0, zr 7 (fun k => qI (c.se.lab k))),
  .inl (0, zr 21 (fun k => qI (c.se.uses k))),
  .inl (0, zr 7 (fun k => qI (c.se.ord k))),
  .inl (0, zr 7 (fun k => qI (c.se.shi k))),
  .inl (0, zr 12 (fun k => qI (c.mks k))),
  .inl (0, zr 66 (fun k => qI (c.ga k))),
  .inr (.inr (7, [.ref 93, .ref 94, .ref 95, .int (qI (r.km)), .ref 96, .int (qI (r.tp.L)), .int (qI (r.ps.fk)), .int (qI (r.ps.fp)), .int (qI (r.ps.spot)), .int (qI (r.ps.beg)), .int (qI (r.ps.tok)), .int (qI (r.ps.val)), .int (qB (r.ps.bad)), .ref 97, .ref 98, .int (qI (r.ln.many)), .ref 99, .int (qI (r.lb.n)), .int (qB (r.lb.tree)), .ref 100, .ref 101, .int (qI (r.sk.found)), .int (qI (r.sk.ends)), .int (qI (r.sk.unl)), .ref 102, .ref 103, .ref 104, .ref 105, .int (qI (r.ou.L))])),
  .inl (0, zr 45 (fun k => r.row k)),
  .inl (0, zr 45 (fun k => r.was k)),
  .inl (0, zr 450 (fun k => r.kept k)),
  .inl (0, zr 400 (fun k => qI (r.tp.B k))),
  .inl (0, zr 11 (fun k => qI (r.ln.A k))),
  .inl (0, zr 11 (fun k => qI (r.ln.B k))),
  .inl (0, zr 7 (fun k => qI (r.lb.lab k))),
  .inl (0, zr 7 (fun k => qI (r.sk.want k))),
  .inl (0, zr 7 (fun k => r.sk.hav k)),
  .inl (0, zr 15 (fun k => r.made k)),
  .inl (0, zr 12 (fun k => qI (r.num k))),
  .inl (1, zr 256 (fun k => qB (r.seen k))),
  .inl (0, zr 120 (fun k => qI (r.ou.B k)))] ++ g
section
variable {rom : List (List Int32)} {c : Cl} {r : Rf} {g : ab_H} {i v : Int} {u : Int32} {b : Bool} {j : Nat}
theorem hc_0 : (HH c r g)[0]? = some (.inr (.inr (6, [.ref 1, .ref 26, .ref 3, .ref 5, .ref (pl 3), .ref 27, .ref 80, .ref 90, .ref 91, .int (qI (c.fn)), .int (qI (c.fp))]))) := rfl
theorem hi_0 : ab_iso (HH c r g) 0 6 = true := ab_iso_at hc_0
theorem hf_0_0 : ab_fld (HH c r g) 0 6 0 = some (.ref 1) := (ab_fld_at hc_0).trans rfl
theorem hf_0_1 : ab_fld (HH c r g) 0 6 1 = some (.ref 26) := (ab_fld_at hc_0).trans rfl
theorem hf_0_2 : ab_fld (HH c r g) 0 6 2 = some (.ref 3) := (ab_fld_at hc_0).trans rfl
theorem hf_0_3 : ab_fld (HH c r g) 0 6 3 = some (.ref 5) := (ab_fld_at hc_0).trans rfl
theorem hf_0_4 : ab_fld (HH c r g) 0 6 4 = some (.ref (pl 3)) := (ab_fld_at hc_0).trans rfl
theorem hf_0_5 : ab_fld (HH c r g) 0 6 5 = some (.ref 27) := (ab_fld_at hc_0).trans rfl
theorem hf_0_6 : ab_fld (HH c r g) 0 6 6 = some (.ref 80) := (ab_fld_at hc_0).trans rfl
theorem hf_0_7 : ab_fld (HH c r g) 0 6 7 = some (.ref 90) := (ab_fld_at hc_0).trans rfl
theorem hf_0_8 : ab_fld (HH c r g) 0 6 8 = some (.ref 91) := (ab_fld_at hc_0).trans rfl
theorem hf_0_9 : ab_fld (HH c r g) 0 6 9 = some (.int (qI (c.fn))) := (ab_fld_at hc_0).trans rfl
theorem hp_0_9 : ab_fpt (HH c r g) 0 6 9 (.int (qI (v))) = some (HH (Cl.mk c.net c.tp c.ou c.rd c.pa c.se c.ce c.mks c.ga v c.fp) r g) := (ab_fpt_at hc_0 (Nat.le_of_ble_eq_true rfl)).trans rfl
theorem hf_0_10 : ab_fld (HH c r g) 0 6 10 = some (.int (qI (c.fp))) := (ab_fld_at hc_0).trans rfl
theorem hp_0_10 : ab_fpt (HH c r g) 0 6 10 (.int (qI (v))) = some (HH (Cl.mk c.net c.tp c.ou c.rd c.pa c.se c.ce c.mks c.ga c.fn v) r g) := (ab_fpt_at hc_0 (Nat.le_of_ble_eq_true rfl)).trans rfl
theorem hc_1 : (HH c r g)[1]? = some (.inr (.inr (5, [.ref 2, .int (qI (c.tp.L))]))) := rfl
theorem hi_1 : ab_iso (HH c r g) 1 5 = true := ab_iso_at hc_1
theorem hf_1_0 : ab_fld (HH c r g) 1 5 0 = some (.ref 2) := (ab_fld_at hc_1).trans rfl
theorem hf_1_1 : ab_fld (HH c r g) 1 5 1 = some (.int (qI (c.tp.L))) := (ab_fld_at hc_1).trans rfl
theorem hp_1_1 : ab_fpt (HH c r g) 1 5 1 (.int (qI (v))) = some (HH (Cl.mk c.net ((Tp.mk c.tp.B v)) c.ou c.rd c.pa c.se c.ce c.mks c.ga c.fn c.fp) r g) := (ab_fpt_at hc_1 (Nat.le_of_ble_eq_true rfl)).trans rfl
theorem hc_2 : (HH c r g)[2]? = some (.inl (0, zr 400 (fun k => qI (c.tp.B k)))) := rfl
theorem hr_2 (h0 : 0 ≤ i) (h1 : i < 400) : ab_ard rom 0 (HH c r g) 2 (qI i) = some (qI (c.tp.B i)) := zx_rd hc_2 (Nat.le_of_ble_eq_true rfl) h0 h1
theorem hs_2 (zf : Int → Int) : (HH c r g).set 2 (.inl (0, zr 400 (fun k => qI (zf k)))) = HH (Cl.mk c.net ((Tp.mk zf c.tp.L)) c.ou c.rd c.pa c.se c.ce c.mks c.ga c.fn c.fp) r g := rfl
theorem hw_2 (h0 : 0 ≤ i) (h1 : i < 400) : ab_awr 0 (HH c r g) 2 (qI i) (qI (v)) = some (HH (Cl.mk c.net ((Tp.mk (zu c.tp.B i v) c.tp.L)) c.ou c.rd c.pa c.se c.ce c.mks c.ga c.fn c.fp) r g) := by rw [zx_wr hc_2 (Nat.le_of_ble_eq_true rfl) h0 h1, zu_qI, hs_2]
theorem hl_2 : ab_aln rom (HH c r g) 2 = some (qI 400) := zx_ln hc_2
theorem hc_3 : (HH c r g)[3]? = some (.inr (.inr (5, [.ref 4, .int (qI (c.ou.L))]))) := rfl
theorem hi_3 : ab_iso (HH c r g) 3 5 = true := ab_iso_at hc_3
theorem hf_3_0 : ab_fld (HH c r g) 3 5 0 = some (.ref 4) := (ab_fld_at hc_3).trans rfl
theorem hf_3_1 : ab_fld (HH c r g) 3 5 1 = some (.int (qI (c.ou.L))) := (ab_fld_at hc_3).trans rfl
theorem hp_3_1 : ab_fpt (HH c r g) 3 5 1 (.int (qI (v))) = some (HH (Cl.mk c.net c.tp ((Tp.mk c.ou.B v)) c.rd c.pa c.se c.ce c.mks c.ga c.fn c.fp) r g) := (ab_fpt_at hc_3 (Nat.le_of_ble_eq_true rfl)).trans rfl
theorem hc_4 : (HH c r g)[4]? = some (.inl (0, zr 400 (fun k => qI (c.ou.B k)))) := rfl
theorem hr_4 (h0 : 0 ≤ i) (h1 : i < 400) : ab_ard rom 0 (HH c r g) 4 (qI i) = some (qI (c.ou.B i)) := zx_rd hc_4 (Nat.le_of_ble_eq_true rfl) h0 h1
theorem hs_4 (zf : Int → Int) : (HH c r g).set 4 (.inl (0, zr 400 (fun k => qI (zf k)))) = HH (Cl.mk c.net c.tp ((Tp.mk zf c.ou.L)) c.rd c.pa c.se c.ce c.mks c.ga c.fn c.fp) r g := rfl
theorem hw_4 (h0 : 0 ≤ i) (h1 : i < 400) : ab_awr 0 (HH c r g) 4 (qI i) (qI (v)) = some (HH (Cl.mk c.net c.tp ((Tp.mk (zu c.ou.B i v) c.ou.L)) c.rd c.pa c.se c.ce c.mks c.ga c.fn c.fp) r g) := by rw [zx_wr hc_4 (Nat.le_of_ble_eq_true rfl) h0 h1, zu_qI, hs_4]
theorem hl_4 : ab_aln rom (HH c r g) 4 = some (qI 400) := zx_ln hc_4
theorem hc_5 : (HH c r g)[5]? = some (.inr (.inl [some (pl 0), some (pl 1), some (pl 2)])) := rfl
theorem hc_26 : (HH c r g)[26]? = some (.inr (.inr (3, [.int (qI (c.rd.fn)), .int (qI (c.rd.fp)), .ref 1, .ref (pl 3), .int (qI (c.rd.nx)), .int (qI (c.rd.st)), .int (qI (c.rd.tk)), .int (qI (c.rd.vl))]))) := rfl
theorem hi_26 : ab_iso (HH c r g) 26 3 = true := ab_iso_at hc_26
theorem hf_26_0 : ab_fld (HH c r g) 26 3 0 = some (.int (qI (c.rd.fn))) := (ab_fld_at hc_26).trans rfl
theorem hp_26_0 : ab_fpt (HH c r g) 26 3 0 (.int (qI (v))) = some (HH (Cl.mk c.net c.tp c.ou ((Rd.mk v c.rd.fp c.rd.nx c.rd.st c.rd.tk c.rd.vl)) c.pa c.se c.ce c.mks c.ga c.fn c.fp) r g) := (ab_fpt_at hc_26 (Nat.le_of_ble_eq_true rfl)).trans rfl
theorem hf_26_1 : ab_fld (HH c r g) 26 3 1 = some (.int (qI (c.rd.fp))) := (ab_fld_at hc_26).trans rfl
theorem hp_26_1 : ab_fpt (HH c r g) 26 3 1 (.int (qI (v))) = some (HH (Cl.mk c.net c.tp c.ou ((Rd.mk c.rd.fn v c.rd.nx c.rd.st c.rd.tk c.rd.vl)) c.pa c.se c.ce c.mks c.ga c.fn c.fp) r g) := (ab_fpt_at hc_26 (Nat.le_of_ble_eq_true rfl)).trans rfl
theorem hf_26_2 : ab_fld (HH c r g) 26 3 2 = some (.ref 1) := (ab_fld_at hc_26).trans rfl
theorem hf_26_3 : ab_fld (HH c r g) 26 3 3 = some (.ref (pl 3)) := (ab_fld_at hc_26).trans rfl
theorem hf_26_4 : ab_fld (HH c r g) 26 3 4 = some (.int (qI (c.rd.nx))) := (ab_fld_at hc_26).trans rfl
theorem hp_26_4 : ab_fpt (HH c r g) 26 3 4 (.int (qI (v))) = some (HH (Cl.mk c.net c.tp c.ou ((Rd.mk c.rd.fn c.rd.fp v c.rd.st c.rd.tk c.rd.vl)) c.pa c.se c.ce c.mks c.ga c.fn c.fp) r g) := (ab_fpt_at hc_26 (Nat.le_of_ble_eq_true rfl)).trans rfl
theorem hf_26_5 : ab_fld (HH c r g) 26 3 5 = some (.int (qI (c.rd.st))) := (ab_fld_at hc_26).trans rfl
theorem hp_26_5 : ab_fpt (HH c r g) 26 3 5 (.int (qI (v))) = some (HH (Cl.mk c.net c.tp c.ou ((Rd.mk c.rd.fn c.rd.fp c.rd.nx v c.rd.tk c.rd.vl)) c.pa c.se c.ce c.mks c.ga c.fn c.fp) r g) := (ab_fpt_at hc_26 (Nat.le_of_ble_eq_true rfl)).trans rfl
theorem hf_26_6 : ab_fld (HH c r g) 26 3 6 = some (.int (qI (c.rd.tk))) := (ab_fld_at hc_26).trans rfl
theorem hp_26_6 : ab_fpt (HH c r g) 26 3 6 (.int (qI (v))) = some (HH (Cl.mk c.net c.tp c.ou ((Rd.mk c.rd.fn c.rd.fp c.rd.nx c.rd.st v c.rd.vl)) c.pa c.se c.ce c.mks c.ga c.fn c.fp) r g) := (ab_fpt_at hc_26 (Nat.le_of_ble_eq_true rfl)).trans rfl
theorem hf_26_7 : ab_fld (HH c r g) 26 3 7 = some (.int (qI (c.rd.vl))) := (ab_fld_at hc_26).trans rfl
theorem hp_26_7 : ab_fpt (HH c r g) 26 3 7 (.int (qI (v))) = some (HH (Cl.mk c.net c.tp c.ou ((Rd.mk c.rd.fn c.rd.fp c.rd.nx c.rd.st c.rd.tk v)) c.pa c.se c.ce c.mks c.ga c.fn c.fp) r g) := (ab_fpt_at hc_26 (Nat.le_of_ble_eq_true rfl)).trans rfl
theorem hc_27 : (HH c r g)[27]? = some (.inr (.inr (2, [.int (qI (c.pa.acts)), .int (qI (c.pa.new)), .ref 28, .ref 29]))) := rfl
theorem hi_27 : ab_iso (HH c r g) 27 2 = true := ab_iso_at hc_27
theorem hf_27_0 : ab_fld (HH c r g) 27 2 0 = some (.int (qI (c.pa.acts))) := (ab_fld_at hc_27).trans rfl
theorem hp_27_0 : ab_fpt (HH c r g) 27 2 0 (.int (qI (v))) = some (HH (Cl.mk c.net c.tp c.ou c.rd ((Pa.mk v c.pa.new c.pa.sl)) c.se c.ce c.mks c.ga c.fn c.fp) r g) := (ab_fpt_at hc_27 (Nat.le_of_ble_eq_true rfl)).trans rfl
theorem hf_27_1 : ab_fld (HH c r g) 27 2 1 = some (.int (qI (c.pa.new))) := (ab_fld_at hc_27).trans rfl
theorem hp_27_1 : ab_fpt (HH c r g) 27 2 1 (.int (qI (v))) = some (HH (Cl.mk c.net c.tp c.ou c.rd ((Pa.mk c.pa.acts v c.pa.sl)) c.se c.ce c.mks c.ga c.fn c.fp) r g) := (ab_fpt_at hc_27 (Nat.le_of_ble_eq_true rfl)).trans rfl
theorem hf_27_2 : ab_fld (HH c r g) 27 2 2 = some (.ref 28) := (ab_fld_at hc_27).trans rfl
theorem hf_27_3 : ab_fld (HH c r g) 27 2 3 = some (.ref 29) := (ab_fld_at hc_27).trans rfl
theorem hc_28 : (HH c r g)[28]? = some (.inr (.inl [some (pl 4), some (pl 5), some (pl 6), some (pl 7), some (pl 8), some (pl 9), some (pl 10), some (pl 11), some (pl 12), some (pl 13)])) := rfl
theorem hc_29 : (HH c r g)[29]? = some (.inl (0, zr 10 (fun k => qI (c.pa.sl k)))) := rfl
theorem hr_29 (h0 : 0 ≤ i) (h1 : i < 10) : ab_ard rom 0 (HH c r g) 29 (qI i) = some (qI (c.pa.sl i)) := zx_rd hc_29 (Nat.le_of_ble_eq_true rfl) h0 h1
theorem hs_29 (zf : Int → Int) : (HH c r g).set 29 (.inl (0, zr 10 (fun k => qI (zf k)))) = HH (Cl.mk c.net c.tp c.ou c.rd ((Pa.mk c.pa.acts c.pa.new zf)) c.se c.ce c.mks c.ga c.fn c.fp) r g := rfl
theorem hw_29 (h0 : 0 ≤ i) (h1 : i < 10) : ab_awr 0 (HH c r g) 29 (qI i) (qI (v)) = some (HH (Cl.mk c.net c.tp c.ou c.rd ((Pa.mk c.pa.acts c.pa.new (zu c.pa.sl i v))) c.se c.ce c.mks c.ga c.fn c.fp) r g) := by rw [zx_wr hc_29 (Nat.le_of_ble_eq_true rfl) h0 h1, zu_qI, hs_29]
theorem hl_29 : ab_aln rom (HH c r g) 29 = some (qI 10) := zx_ln hc_29
theorem hc_80 : (HH c r g)[80]? = some (.inr (.inr (4, [.ref 81, .ref 86, .ref 87, .ref 88, .ref 89, .ref (pl c.se.net), .int (qI (c.se.kind)), .int (qI (c.se.top)), .int (qI (c.se.rep)), .int (qI (c.se.all)), .int (c.se.wor), .int (qI (c.se.many)), .int (qB (c.se.any)), .int (qB (c.se.one)), .int (qB (c.se.stop))]))) := rfl
theorem hi_80 : ab_iso (HH c r g) 80 4 = true := ab_iso_at hc_80
theorem hf_80_0 : ab_fld (HH c r g) 80 4 0 = some (.ref 81) := (ab_fld_at hc_80).trans rfl
theorem hf_80_1 : ab_fld (HH c r g) 80 4 1 = some (.ref 86) := (ab_fld_at hc_80).trans rfl
theorem hf_80_2 : ab_fld (HH c r g) 80 4 2 = some (.ref 87) := (ab_fld_at hc_80).trans rfl
theorem hf_80_3 : ab_fld (HH c r g) 80 4 3 = some (.ref 88) := (ab_fld_at hc_80).trans rfl
theorem hf_80_4 : ab_fld (HH c r g) 80 4 4 = some (.ref 89) := (ab_fld_at hc_80).trans rfl
theorem hf_80_5 : ab_fld (HH c r g) 80 4 5 = some (.ref (pl c.se.net)) := (ab_fld_at hc_80).trans rfl
theorem hp_80_5 : ab_fpt (HH c r g) 80 4 5 (.ref (pl j)) = some (HH (Cl.mk c.net c.tp c.ou c.rd c.pa ((Se.mk c.se.lab c.se.uses c.se.ord c.se.shi j c.se.kind c.se.top c.se.rep c.se.all c.se.wor c.se.many c.se.any c.se.one c.se.stop)) c.ce c.mks c.ga c.fn c.fp) r g) := (ab_fpt_at hc_80 (Nat.le_of_ble_eq_true rfl)).trans rfl
theorem hf_80_6 : ab_fld (HH c r g) 80 4 6 = some (.int (qI (c.se.kind))) := (ab_fld_at hc_80).trans rfl
theorem hp_80_6 : ab_fpt (HH c r g) 80 4 6 (.int (qI (v))) = some (HH (Cl.mk c.net c.tp c.ou c.rd c.pa ((Se.mk c.se.lab c.se.uses c.se.ord c.se.shi c.se.net v c.se.top c.se.rep c.se.all c.se.wor c.se.many c.se.any c.se.one c.se.stop)) c.ce c.mks c.ga c.fn c.fp) r g) := (ab_fpt_at hc_80 (Nat.le_of_ble_eq_true rfl)).trans rfl
theorem hf_80_7 : ab_fld (HH c r g) 80 4 7 = some (.int (qI (c.se.top))) := (ab_fld_at hc_80).trans rfl
theorem hp_80_7 : ab_fpt (HH c r g) 80 4 7 (.int (qI (v))) = some (HH (Cl.mk c.net c.tp c.ou c.rd c.pa ((Se.mk c.se.lab c.se.uses c.se.ord c.se.shi c.se.net c.se.kind v c.se.rep c.se.all c.se.wor c.se.many c.se.any c.se.one c.se.stop)) c.ce c.mks c.ga c.fn c.fp) r g) := (ab_fpt_at hc_80 (Nat.le_of_ble_eq_true rfl)).trans rfl
theorem hf_80_8 : ab_fld (HH c r g) 80 4 8 = some (.int (qI (c.se.rep))) := (ab_fld_at hc_80).trans rfl
theorem hp_80_8 : ab_fpt (HH c r g) 80 4 8 (.int (qI (v))) = some (HH (Cl.mk c.net c.tp c.ou c.rd c.pa ((Se.mk c.se.lab c.se.uses c.se.ord c.se.shi c.se.net c.se.kind c.se.top v c.se.all c.se.wor c.se.many c.se.any c.se.one c.se.stop)) c.ce c.mks c.ga c.fn c.fp) r g) := (ab_fpt_at hc_80 (Nat.le_of_ble_eq_true rfl)).trans rfl
theorem hf_80_9 : ab_fld (HH c r g) 80 4 9 = some (.int (qI (c.se.all))) := (ab_fld_at hc_80).trans rfl
theorem hp_80_9 : ab_fpt (HH c r g) 80 4 9 (.int (qI (v))) = some (HH (Cl.mk c.net c.tp c.ou c.rd c.pa ((Se.mk c.se.lab c.se.uses c.se.ord c.se.shi c.se.net c.se.kind c.se.top c.se.rep v c.se.wor c.se.many c.se.any c.se.one c.se.stop)) c.ce c.mks c.ga c.fn c.fp) r g) := (ab_fpt_at hc_80 (Nat.le_of_ble_eq_true rfl)).trans rfl
theorem hf_80_10 : ab_fld (HH c r g) 80 4 10 = some (.int (c.se.wor)) := (ab_fld_at hc_80).trans rfl
theorem hp_80_10 : ab_fpt (HH c r g) 80 4 10 (.int (u)) = some (HH (Cl.mk c.net c.tp c.ou c.rd c.pa ((Se.mk c.se.lab c.se.uses c.se.ord c.se.shi c.se.net c.se.kind c.se.top c.se.rep c.se.all u c.se.many c.se.any c.se.one c.se.stop)) c.ce c.mks c.ga c.fn c.fp) r g) := (ab_fpt_at hc_80 (Nat.le_of_ble_eq_true rfl)).trans rfl
theorem hf_80_11 : ab_fld (HH c r g) 80 4 11 = some (.int (qI (c.se.many))) := (ab_fld_at hc_80).trans rfl
theorem hp_80_11 : ab_fpt (HH c r g) 80 4 11 (.int (qI (v))) = some (HH (Cl.mk c.net c.tp c.ou c.rd c.pa ((Se.mk c.se.lab c.se.uses c.se.ord c.se.shi c.se.net c.se.kind c.se.top c.se.rep c.se.all c.se.wor v c.se.any c.se.one c.se.stop)) c.ce c.mks c.ga c.fn c.fp) r g) := (ab_fpt_at hc_80 (Nat.le_of_ble_eq_true rfl)).trans rfl
theorem hf_80_12 : ab_fld (HH c r g) 80 4 12 = some (.int (qB (c.se.any))) := (ab_fld_at hc_80).trans rfl
theorem hp_80_12 : ab_fpt (HH c r g) 80 4 12 (.int (qB (b))) = some (HH (Cl.mk c.net c.tp c.ou c.rd c.pa ((Se.mk c.se.lab c.se.uses c.se.ord c.se.shi c.se.net c.se.kind c.se.top c.se.rep c.se.all c.se.wor c.se.many b c.se.one c.se.stop)) c.ce c.mks c.ga c.fn c.fp) r g) := (ab_fpt_at hc_80 (Nat.le_of_ble_eq_true rfl)).trans rfl
theorem hf_80_13 : ab_fld (HH c r g) 80 4 13 = some (.int (qB (c.se.one))) := (ab_fld_at hc_80).trans rfl
theorem hp_80_13 : ab_fpt (HH c r g) 80 4 13 (.int (qB (b))) = some (HH (Cl.mk c.net c.tp c.ou c.rd c.pa ((Se.mk c.se.lab c.se.uses c.se.ord c.se.shi c.se.net c.se.kind c.se.top c.se.rep c.se.all c.se.wor c.se.many c.se.any b c.se.stop)) c.ce c.mks c.ga c.fn c.fp) r g) := (ab_fpt_at hc_80 (Nat.le_of_ble_eq_true rfl)).trans rfl
theorem hf_80_14 : ab_fld (HH c r g) 80 4 14 = some (.int (qB (c.se.stop))) := (ab_fld_at hc_80).trans rfl
theorem hp_80_14 : ab_fpt (HH c r g) 80 4 14 (.int (qB (b))) = some (HH (Cl.mk c.net c.tp c.ou c.rd c.pa ((Se.mk c.se.lab c.se.uses c.se.ord c.se.shi c.se.net c.se.kind c.se.top c.se.rep c.se.all c.se.wor c.se.many c.se.any c.se.one b)) c.ce c.mks c.ga c.fn c.fp) r g) := (ab_fpt_at hc_80 (Nat.le_of_ble_eq_true rfl)).trans rfl
theorem hc_81 : (HH c r g)[81]? = some (.inr (.inr (0, [.int (qI (c.ce.found)), .ref 82, .int (qI (c.ce.wat)), .ref 83, .int (qB (c.ce.cmp)), .ref 84, .ref 85]))) := rfl
theorem hi_81 : ab_iso (HH c r g) 81 0 = true := ab_iso_at hc_81
theorem hf_81_0 : ab_fld (HH c r g) 81 0 0 = some (.int (qI (c.ce.found))) := (ab_fld_at hc_81).trans rfl
theorem hp_81_0 : ab_fpt (HH c r g) 81 0 0 (.int (qI (v))) = some (HH (Cl.mk c.net c.tp c.ou c.rd c.pa c.se ((Ce.mk v c.ce.ats c.ce.wat c.ce.tal c.ce.cmp c.ce.tar c.ce.agr)) c.mks c.ga c.fn c.fp) r g) := (ab_fpt_at hc_81 (Nat.le_of_ble_eq_true rfl)).trans rfl
theorem hf_81_1 : ab_fld (HH c r g) 81 0 1 = some (.ref 82) := (ab_fld_at hc_81).trans rfl
theorem hf_81_2 : ab_fld (HH c r g) 81 0 2 = some (.int (qI (c.ce.wat))) := (ab_fld_at hc_81).trans rfl
theorem hp_81_2 : ab_fpt (HH c r g) 81 0 2 (.int (qI (v))) = some (HH (Cl.mk c.net c.tp c.ou c.rd c.pa c.se ((Ce.mk c.ce.found c.ce.ats v c.ce.tal c.ce.cmp c.ce.tar c.ce.agr)) c.mks c.ga c.fn c.fp) r g) := (ab_fpt_at hc_81 (Nat.le_of_ble_eq_true rfl)).trans rfl
theorem hf_81_3 : ab_fld (HH c r g) 81 0 3 = some (.ref 83) := (ab_fld_at hc_81).trans rfl
theorem hf_81_4 : ab_fld (HH c r g) 81 0 4 = some (.int (qB (c.ce.cmp))) := (ab_fld_at hc_81).trans rfl
theorem hp_81_4 : ab_fpt (HH c r g) 81 0 4 (.int (qB (b))) = some (HH (Cl.mk c.net c.tp c.ou c.rd c.pa c.se ((Ce.mk c.ce.found c.ce.ats c.ce.wat c.ce.tal b c.ce.tar c.ce.agr)) c.mks c.ga c.fn c.fp) r g) := (ab_fpt_at hc_81 (Nat.le_of_ble_eq_true rfl)).trans rfl
theorem hf_81_5 : ab_fld (HH c r g) 81 0 5 = some (.ref 84) := (ab_fld_at hc_81).trans rfl
theorem hf_81_6 : ab_fld (HH c r g) 81 0 6 = some (.ref 85) := (ab_fld_at hc_81).trans rfl
theorem hc_82 : (HH c r g)[82]? = some (.inl (0, zr 7 (fun k => c.ce.ats k))) := rfl
theorem hr_82 (h0 : 0 ≤ i) (h1 : i < 7) : ab_ard rom 0 (HH c r g) 82 (qI i) = some (c.ce.ats i) := zx_rd hc_82 (Nat.le_of_ble_eq_true rfl) h0 h1
theorem hs_82 (zf : Int → Int32) : (HH c r g).set 82 (.inl (0, zr 7 (fun k => zf k))) = HH (Cl.mk c.net c.tp c.ou c.rd c.pa c.se ((Ce.mk c.ce.found zf c.ce.wat c.ce.tal c.ce.cmp c.ce.tar c.ce.agr)) c.mks c.ga c.fn c.fp) r g := rfl
theorem hw_82 (h0 : 0 ≤ i) (h1 : i < 7) : ab_awr 0 (HH c r g) 82 (qI i) (u) = some (HH (Cl.mk c.net c.tp c.ou c.rd c.pa c.se ((Ce.mk c.ce.found (zu c.ce.ats i u) c.ce.wat c.ce.tal c.ce.cmp c.ce.tar c.ce.agr)) c.mks c.ga c.fn c.fp) r g) := by rw [zx_wr hc_82 (Nat.le_of_ble_eq_true rfl) h0 h1, zu_S, hs_82]
theorem hl_82 : ab_aln rom (HH c r g) 82 = some (qI 7) := zx_ln hc_82
theorem hc_83 : (HH c r g)[83]? = some (.inl (0, zr 21 (fun k => qI (c.ce.tal k)))) := rfl
theorem hr_83 (h0 : 0 ≤ i) (h1 : i < 21) : ab_ard rom 0 (HH c r g) 83 (qI i) = some (qI (c.ce.tal i)) := zx_rd hc_83 (Nat.le_of_ble_eq_true rfl) h0 h1
theorem hs_83 (zf : Int → Int) : (HH c r g).set 83 (.inl (0, zr 21 (fun k => qI (zf k)))) = HH (Cl.mk c.net c.tp c.ou c.rd c.pa c.se ((Ce.mk c.ce.found c.ce.ats c.ce.wat zf c.ce.cmp c.ce.tar c.ce.agr)) c.mks c.ga c.fn c.fp) r g := rfl
theorem hw_83 (h0 : 0 ≤ i) (h1 : i < 21) : ab_awr 0 (HH c r g) 83 (qI i) (qI (v)) = some (HH (Cl.mk c.net c.tp c.ou c.rd c.pa c.se ((Ce.mk c.ce.found c.ce.ats c.ce.wat (zu c.ce.tal i v) c.ce.cmp c.ce.tar c.ce.agr)) c.mks c.ga c.fn c.fp) r g) := by rw [zx_wr hc_83 (Nat.le_of_ble_eq_true rfl) h0 h1, zu_qI, hs_83]
theorem hl_83 : ab_aln rom (HH c r g) 83 = some (qI 21) := zx_ln hc_83
theorem hc_84 : (HH c r g)[84]? = some (.inl (0, zr 7 (fun k => qI (c.ce.tar k)))) := rfl
theorem hr_84 (h0 : 0 ≤ i) (h1 : i < 7) : ab_ard rom 0 (HH c r g) 84 (qI i) = some (qI (c.ce.tar i)) := zx_rd hc_84 (Nat.le_of_ble_eq_true rfl) h0 h1
theorem hs_84 (zf : Int → Int) : (HH c r g).set 84 (.inl (0, zr 7 (fun k => qI (zf k)))) = HH (Cl.mk c.net c.tp c.ou c.rd c.pa c.se ((Ce.mk c.ce.found c.ce.ats c.ce.wat c.ce.tal c.ce.cmp zf c.ce.agr)) c.mks c.ga c.fn c.fp) r g := rfl
theorem hw_84 (h0 : 0 ≤ i) (h1 : i < 7) : ab_awr 0 (HH c r g) 84 (qI i) (qI (v)) = some (HH (Cl.mk c.net c.tp c.ou c.rd c.pa c.se ((Ce.mk c.ce.found c.ce.ats c.ce.wat c.ce.tal c.ce.cmp (zu c.ce.tar i v) c.ce.agr)) c.mks c.ga c.fn c.fp) r g) := by rw [zx_wr hc_84 (Nat.le_of_ble_eq_true rfl) h0 h1, zu_qI, hs_84]
theorem hl_84 : ab_aln rom (HH c r g) 84 = some (qI 7) := zx_ln hc_84
theorem hc_85 : (HH c r g)[85]? = some (.inl (0, zr 128 (fun k => qI (c.ce.agr k)))) := rfl
theorem hr_85 (h0 : 0 ≤ i) (h1 : i < 128) : ab_ard rom 0 (HH c r g) 85 (qI i) = some (qI (c.ce.agr i)) := zx_rd hc_85 (Nat.le_of_ble_eq_true rfl) h0 h1
theorem hs_85 (zf : Int → Int) : (HH c r g).set 85 (.inl (0, zr 128 (fun k => qI (zf k)))) = HH (Cl.mk c.net c.tp c.ou c.rd c.pa c.se ((Ce.mk c.ce.found c.ce.ats c.ce.wat c.ce.tal c.ce.cmp c.ce.tar zf)) c.mks c.ga c.fn c.fp) r g := rfl
theorem hw_85 (h0 : 0 ≤ i) (h1 : i < 128) : ab_awr 0 (HH c r g) 85 (qI i) (qI (v)) = some (HH (Cl.mk c.net c.tp c.ou c.rd c.pa c.se ((Ce.mk c.ce.found c.ce.ats c.ce.wat c.ce.tal c.ce.cmp c.ce.tar (zu c.ce.agr i v))) c.mks c.ga c.fn c.fp) r g) := by rw [zx_wr hc_85 (Nat.le_of_ble_eq_true rfl) h0 h1, zu_qI, hs_85]
theorem hl_85 : ab_aln rom (HH c r g) 85 = some (qI 128) := zx_ln hc_85
theorem hc_86 : (HH c r g)[86]? = some (.inl (0, zr 7 (fun k => qI (c.se.lab k)))) := rfl
theorem hr_86 (h0 : 0 ≤ i) (h1 : i < 7) : ab_ard rom 0 (HH c r g) 86 (qI i) = some (qI (c.se.lab i)) := zx_rd hc_86 (Nat.le_of_ble_eq_true rfl) h0 h1
theorem hs_86 (zf : Int → Int) : (HH c r g).set 86 (.inl (0, zr 7 (fun k => qI (zf k)))) = HH (Cl.mk c.net c.tp c.ou c.rd c.pa ((Se.mk zf c.se.uses c.se.ord c.se.shi c.se.net c.se.kind c.se.top c.se.rep c.se.all c.se.wor c.se.many c.se.any c.se.one c.se.stop)) c.ce c.mks c.ga c.fn c.fp) r g := rfl
theorem hw_86 (h0 : 0 ≤ i) (h1 : i < 7) : ab_awr 0 (HH c r g) 86 (qI i) (qI (v)) = some (HH (Cl.mk c.net c.tp c.ou c.rd c.pa ((Se.mk (zu c.se.lab i v) c.se.uses c.se.ord c.se.shi c.se.net c.se.kind c.se.top c.se.rep c.se.all c.se.wor c.se.many c.se.any c.se.one c.se.stop)) c.ce c.mks c.ga c.fn c.fp) r g) := by rw [zx_wr hc_86 (Nat.le_of_ble_eq_true rfl) h0 h1, zu_qI, hs_86]
theorem hl_86 : ab_aln rom (HH c r g) 86 = some (qI 7) := zx_ln hc_86
theorem hc_87 : (HH c r g)[87]? = some (.inl (0, zr 21 (fun k => qI (c.se.uses k)))) := rfl
theorem hr_87 (h0 : 0 ≤ i) (h1 : i < 21) : ab_ard rom 0 (HH c r g) 87 (qI i) = some (qI (c.se.uses i)) := zx_rd hc_87 (Nat.le_of_ble_eq_true rfl) h0 h1
theorem hs_87 (zf : Int → Int) : (HH c r g).set 87 (.inl (0, zr 21 (fun k => qI (zf k)))) = HH (Cl.mk c.net c.tp c.ou c.rd c.pa ((Se.mk c.se.lab zf c.se.ord c.se.shi c.se.net c.se.kind c.se.top c.se.rep c.se.all c.se.wor c.se.many c.se.any c.se.one c.se.stop)) c.ce c.mks c.ga c.fn c.fp) r g := rfl
theorem hw_87 (h0 : 0 ≤ i) (h1 : i < 21) : ab_awr 0 (HH c r g) 87 (qI i) (qI (v)) = some (HH (Cl.mk c.net c.tp c.ou c.rd c.pa ((Se.mk c.se.lab (zu c.se.uses i v) c.se.ord c.se.shi c.se.net c.se.kind c.se.top c.se.rep c.se.all c.se.wor c.se.many c.se.any c.se.one c.se.stop)) c.ce c.mks c.ga c.fn c.fp) r g) := by rw [zx_wr hc_87 (Nat.le_of_ble_eq_true rfl) h0 h1, zu_qI, hs_87]
theorem hl_87 : ab_aln rom (HH c r g) 87 = some (qI 21) := zx_ln hc_87
theorem hc_88 : (HH c r g)[88]? = some (.inl (0, zr 7 (fun k => qI (c.se.ord k)))) := rfl
theorem hr_88 (h0 : 0 ≤ i) (h1 : i < 7) : ab_ard rom 0 (HH c r g) 88 (qI i) = some (qI (c.se.ord i)) := zx_rd hc_88 (Nat.le_of_ble_eq_true rfl) h0 h1
theorem hs_88 (zf : Int → Int) : (HH c r g).set 88 (.inl (0, zr 7 (fun k => qI (zf k)))) = HH (Cl.mk c.net c.tp c.ou c.rd c.pa ((Se.mk c.se.lab c.se.uses zf c.se.shi c.se.net c.se.kind c.se.top c.se.rep c.se.all c.se.wor c.se.many c.se.any c.se.one c.se.stop)) c.ce c.mks c.ga c.fn c.fp) r g := rfl
theorem hw_88 (h0 : 0 ≤ i) (h1 : i < 7) : ab_awr 0 (HH c r g) 88 (qI i) (qI (v)) = some (HH (Cl.mk c.net c.tp c.ou c.rd c.pa ((Se.mk c.se.lab c.se.uses (zu c.se.ord i v) c.se.shi c.se.net c.se.kind c.se.top c.se.rep c.se.all c.se.wor c.se.many c.se.any c.se.one c.se.stop)) c.ce c.mks c.ga c.fn c.fp) r g) := by rw [zx_wr hc_88 (Nat.le_of_ble_eq_true rfl) h0 h1, zu_qI, hs_88]
theorem hl_88 : ab_aln rom (HH c r g) 88 = some (qI 7) := zx_ln hc_88
theorem hc_89 : (HH c r g)[89]? = some (.inl (0, zr 7 (fun k => qI (c.se.shi k)))) := rfl
theorem hr_89 (h0 : 0 ≤ i) (h1 : i < 7) : ab_ard rom 0 (HH c r g) 89 (qI i) = some (qI (c.se.shi i)) := zx_rd hc_89 (Nat.le_of_ble_eq_true rfl) h0 h1
theorem hs_89 (zf : Int → Int) : (HH c r g).set 89 (.inl (0, zr 7 (fun k => qI (zf k)))) = HH (Cl.mk c.net c.tp c.ou c.rd c.pa ((Se.mk c.se.lab c.se.uses c.se.ord zf c.se.net c.se.kind c.se.top c.se.rep c.se.all c.se.wor c.se.many c.se.any c.se.one c.se.stop)) c.ce c.mks c.ga c.fn c.fp) r g := rfl
theorem hw_89 (h0 : 0 ≤ i) (h1 : i < 7) : ab_awr 0 (HH c r g) 89 (qI i) (qI (v)) = some (HH (Cl.mk c.net c.tp c.ou c.rd c.pa ((Se.mk c.se.lab c.se.uses c.se.ord (zu c.se.shi i v) c.se.net c.se.kind c.se.top c.se.rep c.se.all c.se.wor c.se.many c.se.any c.se.one c.se.stop)) c.ce c.mks c.ga c.fn c.fp) r g) := by rw [zx_wr hc_89 (Nat.le_of_ble_eq_true rfl) h0 h1, zu_qI, hs_89]
theorem hl_89 : ab_aln rom (HH c r g) 89 = some (qI 7) := zx_ln hc_89
theorem hc_90 : (HH c r g)[90]? = some (.inl (0, zr 12 (fun k => qI (c.mks k)))) := rfl
theorem hr_90 (h0 : 0 ≤ i) (h1 : i < 12) : ab_ard rom 0 (HH c r g) 90 (qI i) = some (qI (c.mks i)) := zx_rd hc_90 (Nat.le_of_ble_eq_true rfl) h0 h1
theorem hs_90 (zf : Int → Int) : (HH c r g).set 90 (.inl (0, zr 12 (fun k => qI (zf k)))) = HH (Cl.mk c.net c.tp c.ou c.rd c.pa c.se c.ce zf c.ga c.fn c.fp) r g := rfl
theorem hw_90 (h0 : 0 ≤ i) (h1 : i < 12) : ab_awr 0 (HH c r g) 90 (qI i) (qI (v)) = some (HH (Cl.mk c.net c.tp c.ou c.rd c.pa c.se c.ce (zu c.mks i v) c.ga c.fn c.fp) r g) := by rw [zx_wr hc_90 (Nat.le_of_ble_eq_true rfl) h0 h1, zu_qI, hs_90]
theorem hl_90 : ab_aln rom (HH c r g) 90 = some (qI 12) := zx_ln hc_90
theorem hc_91 : (HH c r g)[91]? = some (.inl (0, zr 66 (fun k => qI (c.ga k)))) := rfl
theorem hr_91 (h0 : 0 ≤ i) (h1 : i < 66) : ab_ard rom 0 (HH c r g) 91 (qI i) = some (qI (c.ga i)) := zx_rd hc_91 (Nat.le_of_ble_eq_true rfl) h0 h1
theorem hs_91 (zf : Int → Int) : (HH c r g).set 91 (.inl (0, zr 66 (fun k => qI (zf k)))) = HH (Cl.mk c.net c.tp c.ou c.rd c.pa c.se c.ce c.mks zf c.fn c.fp) r g := rfl
theorem hw_91 (h0 : 0 ≤ i) (h1 : i < 66) : ab_awr 0 (HH c r g) 91 (qI i) (qI (v)) = some (HH (Cl.mk c.net c.tp c.ou c.rd c.pa c.se c.ce c.mks (zu c.ga i v) c.fn c.fp) r g) := by rw [zx_wr hc_91 (Nat.le_of_ble_eq_true rfl) h0 h1, zu_qI, hs_91]
theorem hl_91 : ab_aln rom (HH c r g) 91 = some (qI 66) := zx_ln hc_91
theorem hc_92 : (HH c r g)[92]? = some (.inr (.inr (7, [.ref 93, .ref 94, .ref 95, .int (qI (r.km)), .ref 96, .int (qI (r.tp.L)), .int (qI (r.ps.fk)), .int (qI (r.ps.fp)), .int (qI (r.ps.spot)), .int (qI (r.ps.beg)), .int (qI (r.ps.tok)), .int (qI (r.ps.val)), .int (qB (r.ps.bad)), .ref 97, .ref 98, .int (qI (r.ln.many)), .ref 99, .int (qI (r.lb.n)), .int (qB (r.lb.tree)), .ref 100, .ref 101, .int (qI (r.sk.found)), .int (qI (r.sk.ends)), .int (qI (r.sk.unl)), .ref 102, .ref 103, .ref 104, .ref 105, .int (qI (r.ou.L))]))) := rfl
theorem hi_92 : ab_iso (HH c r g) 92 7 = true := ab_iso_at hc_92
theorem hf_92_0 : ab_fld (HH c r g) 92 7 0 = some (.ref 93) := (ab_fld_at hc_92).trans rfl
theorem hf_92_1 : ab_fld (HH c r g) 92 7 1 = some (.ref 94) := (ab_fld_at hc_92).trans rfl
theorem hf_92_2 : ab_fld (HH c r g) 92 7 2 = some (.ref 95) := (ab_fld_at hc_92).trans rfl
theorem hf_92_3 : ab_fld (HH c r g) 92 7 3 = some (.int (qI (r.km))) := (ab_fld_at hc_92).trans rfl
theorem hp_92_3 : ab_fpt (HH c r g) 92 7 3 (.int (qI (v))) = some (HH c (Rf.mk r.row r.was r.kept v r.tp r.ps r.ln r.lb r.sk r.made r.num r.seen r.ou) g) := (ab_fpt_at hc_92 (Nat.le_of_ble_eq_true rfl)).trans rfl
theorem hf_92_4 : ab_fld (HH c r g) 92 7 4 = some (.ref 96) := (ab_fld_at hc_92).trans rfl
theorem hf_92_5 : ab_fld (HH c r g) 92 7 5 = some (.int (qI (r.tp.L))) := (ab_fld_at hc_92).trans rfl
theorem hp_92_5 : ab_fpt (HH c r g) 92 7 5 (.int (qI (v))) = some (HH c (Rf.mk r.row r.was r.kept r.km ((Tp.mk r.tp.B v)) r.ps r.ln r.lb r.sk r.made r.num r.seen r.ou) g) := (ab_fpt_at hc_92 (Nat.le_of_ble_eq_true rfl)).trans rfl
theorem hf_92_6 : ab_fld (HH c r g) 92 7 6 = some (.int (qI (r.ps.fk))) := (ab_fld_at hc_92).trans rfl
theorem hp_92_6 : ab_fpt (HH c r g) 92 7 6 (.int (qI (v))) = some (HH c (Rf.mk r.row r.was r.kept r.km r.tp ((Ps.mk v r.ps.fp r.ps.spot r.ps.beg r.ps.tok r.ps.val r.ps.bad)) r.ln r.lb r.sk r.made r.num r.seen r.ou) g) := (ab_fpt_at hc_92 (Nat.le_of_ble_eq_true rfl)).trans rfl
theorem hf_92_7 : ab_fld (HH c r g) 92 7 7 = some (.int (qI (r.ps.fp))) := (ab_fld_at hc_92).trans rfl
theorem hp_92_7 : ab_fpt (HH c r g) 92 7 7 (.int (qI (v))) = some (HH c (Rf.mk r.row r.was r.kept r.km r.tp ((Ps.mk r.ps.fk v r.ps.spot r.ps.beg r.ps.tok r.ps.val r.ps.bad)) r.ln r.lb r.sk r.made r.num r.seen r.ou) g) := (ab_fpt_at hc_92 (Nat.le_of_ble_eq_true rfl)).trans rfl
theorem hf_92_8 : ab_fld (HH c r g) 92 7 8 = some (.int (qI (r.ps.spot))) := (ab_fld_at hc_92).trans rfl
theorem hp_92_8 : ab_fpt (HH c r g) 92 7 8 (.int (qI (v))) = some (HH c (Rf.mk r.row r.was r.kept r.km r.tp ((Ps.mk r.ps.fk r.ps.fp v r.ps.beg r.ps.tok r.ps.val r.ps.bad)) r.ln r.lb r.sk r.made r.num r.seen r.ou) g) := (ab_fpt_at hc_92 (Nat.le_of_ble_eq_true rfl)).trans rfl
theorem hf_92_9 : ab_fld (HH c r g) 92 7 9 = some (.int (qI (r.ps.beg))) := (ab_fld_at hc_92).trans rfl
theorem hp_92_9 : ab_fpt (HH c r g) 92 7 9 (.int (qI (v))) = some (HH c (Rf.mk r.row r.was r.kept r.km r.tp ((Ps.mk r.ps.fk r.ps.fp r.ps.spot v r.ps.tok r.ps.val r.ps.bad)) r.ln r.lb r.sk r.made r.num r.seen r.ou) g) := (ab_fpt_at hc_92 (Nat.le_of_ble_eq_true rfl)).trans rfl
theorem hf_92_10 : ab_fld (HH c r g) 92 7 10 = some (.int (qI (r.ps.tok))) := (ab_fld_at hc_92).trans rfl
theorem hp_92_10 : ab_fpt (HH c r g) 92 7 10 (.int (qI (v))) = some (HH c (Rf.mk r.row r.was r.kept r.km r.tp ((Ps.mk r.ps.fk r.ps.fp r.ps.spot r.ps.beg v r.ps.val r.ps.bad)) r.ln r.lb r.sk r.made r.num r.seen r.ou) g) := (ab_fpt_at hc_92 (Nat.le_of_ble_eq_true rfl)).trans rfl
theorem hf_92_11 : ab_fld (HH c r g) 92 7 11 = some (.int (qI (r.ps.val))) := (ab_fld_at hc_92).trans rfl
theorem hp_92_11 : ab_fpt (HH c r g) 92 7 11 (.int (qI (v))) = some (HH c (Rf.mk r.row r.was r.kept r.km r.tp ((Ps.mk r.ps.fk r.ps.fp r.ps.spot r.ps.beg r.ps.tok v r.ps.bad)) r.ln r.lb r.sk r.made r.num r.seen r.ou) g) := (ab_fpt_at hc_92 (Nat.le_of_ble_eq_true rfl)).trans rfl
theorem hf_92_12 : ab_fld (HH c r g) 92 7 12 = some (.int (qB (r.ps.bad))) := (ab_fld_at hc_92).trans rfl
theorem hp_92_12 : ab_fpt (HH c r g) 92 7 12 (.int (qB (b))) = some (HH c (Rf.mk r.row r.was r.kept r.km r.tp ((Ps.mk r.ps.fk r.ps.fp r.ps.spot r.ps.beg r.ps.tok r.ps.val b)) r.ln r.lb r.sk r.made r.num r.seen r.ou) g) := (ab_fpt_at hc_92 (Nat.le_of_ble_eq_true rfl)).trans rfl
theorem hf_92_13 : ab_fld (HH c r g) 92 7 13 = some (.ref 97) := (ab_fld_at hc_92).trans rfl
theorem hf_92_14 : ab_fld (HH c r g) 92 7 14 = some (.ref 98) := (ab_fld_at hc_92).trans rfl
theorem hf_92_15 : ab_fld (HH c r g) 92 7 15 = some (.int (qI (r.ln.many))) := (ab_fld_at hc_92).trans rfl
theorem hp_92_15 : ab_fpt (HH c r g) 92 7 15 (.int (qI (v))) = some (HH c (Rf.mk r.row r.was r.kept r.km r.tp r.ps ((Ln.mk r.ln.A r.ln.B v)) r.lb r.sk r.made r.num r.seen r.ou) g) := (ab_fpt_at hc_92 (Nat.le_of_ble_eq_true rfl)).trans rfl
theorem hf_92_16 : ab_fld (HH c r g) 92 7 16 = some (.ref 99) := (ab_fld_at hc_92).trans rfl
theorem hf_92_17 : ab_fld (HH c r g) 92 7 17 = some (.int (qI (r.lb.n))) := (ab_fld_at hc_92).trans rfl
theorem hp_92_17 : ab_fpt (HH c r g) 92 7 17 (.int (qI (v))) = some (HH c (Rf.mk r.row r.was r.kept r.km r.tp r.ps r.ln ((Lb.mk r.lb.lab v r.lb.tree)) r.sk r.made r.num r.seen r.ou) g) := (ab_fpt_at hc_92 (Nat.le_of_ble_eq_true rfl)).trans rfl
theorem hf_92_18 : ab_fld (HH c r g) 92 7 18 = some (.int (qB (r.lb.tree))) := (ab_fld_at hc_92).trans rfl
theorem hp_92_18 : ab_fpt (HH c r g) 92 7 18 (.int (qB (b))) = some (HH c (Rf.mk r.row r.was r.kept r.km r.tp r.ps r.ln ((Lb.mk r.lb.lab r.lb.n b)) r.sk r.made r.num r.seen r.ou) g) := (ab_fpt_at hc_92 (Nat.le_of_ble_eq_true rfl)).trans rfl
theorem hf_92_19 : ab_fld (HH c r g) 92 7 19 = some (.ref 100) := (ab_fld_at hc_92).trans rfl
theorem hf_92_20 : ab_fld (HH c r g) 92 7 20 = some (.ref 101) := (ab_fld_at hc_92).trans rfl
theorem hf_92_21 : ab_fld (HH c r g) 92 7 21 = some (.int (qI (r.sk.found))) := (ab_fld_at hc_92).trans rfl
theorem hp_92_21 : ab_fpt (HH c r g) 92 7 21 (.int (qI (v))) = some (HH c (Rf.mk r.row r.was r.kept r.km r.tp r.ps r.ln r.lb ((Sk.mk r.sk.want r.sk.hav v r.sk.ends r.sk.unl)) r.made r.num r.seen r.ou) g) := (ab_fpt_at hc_92 (Nat.le_of_ble_eq_true rfl)).trans rfl
theorem hf_92_22 : ab_fld (HH c r g) 92 7 22 = some (.int (qI (r.sk.ends))) := (ab_fld_at hc_92).trans rfl
theorem hp_92_22 : ab_fpt (HH c r g) 92 7 22 (.int (qI (v))) = some (HH c (Rf.mk r.row r.was r.kept r.km r.tp r.ps r.ln r.lb ((Sk.mk r.sk.want r.sk.hav r.sk.found v r.sk.unl)) r.made r.num r.seen r.ou) g) := (ab_fpt_at hc_92 (Nat.le_of_ble_eq_true rfl)).trans rfl
theorem hf_92_23 : ab_fld (HH c r g) 92 7 23 = some (.int (qI (r.sk.unl))) := (ab_fld_at hc_92).trans rfl
theorem hp_92_23 : ab_fpt (HH c r g) 92 7 23 (.int (qI (v))) = some (HH c (Rf.mk r.row r.was r.kept r.km r.tp r.ps r.ln r.lb ((Sk.mk r.sk.want r.sk.hav r.sk.found r.sk.ends v)) r.made r.num r.seen r.ou) g) := (ab_fpt_at hc_92 (Nat.le_of_ble_eq_true rfl)).trans rfl
theorem hf_92_24 : ab_fld (HH c r g) 92 7 24 = some (.ref 102) := (ab_fld_at hc_92).trans rfl
theorem hf_92_25 : ab_fld (HH c r g) 92 7 25 = some (.ref 103) := (ab_fld_at hc_92).trans rfl
theorem hf_92_26 : ab_fld (HH c r g) 92 7 26 = some (.ref 104) := (ab_fld_at hc_92).trans rfl
theorem hf_92_27 : ab_fld (HH c r g) 92 7 27 = some (.ref 105) := (ab_fld_at hc_92).trans rfl
theorem hf_92_28 : ab_fld (HH c r g) 92 7 28 = some (.int (qI (r.ou.L))) := (ab_fld_at hc_92).trans rfl
theorem hp_92_28 : ab_fpt (HH c r g) 92 7 28 (.int (qI (v))) = some (HH c (Rf.mk r.row r.was r.kept r.km r.tp r.ps r.ln r.lb r.sk r.made r.num r.seen ((Tp.mk r.ou.B v))) g) := (ab_fpt_at hc_92 (Nat.le_of_ble_eq_true rfl)).trans rfl
theorem hc_93 : (HH c r g)[93]? = some (.inl (0, zr 45 (fun k => r.row k))) := rfl
theorem hr_93 (h0 : 0 ≤ i) (h1 : i < 45) : ab_ard rom 0 (HH c r g) 93 (qI i) = some (r.row i) := zx_rd hc_93 (Nat.le_of_ble_eq_true rfl) h0 h1
theorem hs_93 (zf : Int → Int32) : (HH c r g).set 93 (.inl (0, zr 45 (fun k => zf k))) = HH c (Rf.mk zf r.was r.kept r.km r.tp r.ps r.ln r.lb r.sk r.made r.num r.seen r.ou) g := rfl
theorem hw_93 (h0 : 0 ≤ i) (h1 : i < 45) : ab_awr 0 (HH c r g) 93 (qI i) (u) = some (HH c (Rf.mk (zu r.row i u) r.was r.kept r.km r.tp r.ps r.ln r.lb r.sk r.made r.num r.seen r.ou) g) := by rw [zx_wr hc_93 (Nat.le_of_ble_eq_true rfl) h0 h1, zu_S, hs_93]
theorem hl_93 : ab_aln rom (HH c r g) 93 = some (qI 45) := zx_ln hc_93
theorem hc_94 : (HH c r g)[94]? = some (.inl (0, zr 45 (fun k => r.was k))) := rfl
theorem hr_94 (h0 : 0 ≤ i) (h1 : i < 45) : ab_ard rom 0 (HH c r g) 94 (qI i) = some (r.was i) := zx_rd hc_94 (Nat.le_of_ble_eq_true rfl) h0 h1
theorem hs_94 (zf : Int → Int32) : (HH c r g).set 94 (.inl (0, zr 45 (fun k => zf k))) = HH c (Rf.mk r.row zf r.kept r.km r.tp r.ps r.ln r.lb r.sk r.made r.num r.seen r.ou) g := rfl
theorem hw_94 (h0 : 0 ≤ i) (h1 : i < 45) : ab_awr 0 (HH c r g) 94 (qI i) (u) = some (HH c (Rf.mk r.row (zu r.was i u) r.kept r.km r.tp r.ps r.ln r.lb r.sk r.made r.num r.seen r.ou) g) := by rw [zx_wr hc_94 (Nat.le_of_ble_eq_true rfl) h0 h1, zu_S, hs_94]
theorem hl_94 : ab_aln rom (HH c r g) 94 = some (qI 45) := zx_ln hc_94
theorem hc_95 : (HH c r g)[95]? = some (.inl (0, zr 450 (fun k => r.kept k))) := rfl
theorem hr_95 (h0 : 0 ≤ i) (h1 : i < 450) : ab_ard rom 0 (HH c r g) 95 (qI i) = some (r.kept i) := zx_rd hc_95 (Nat.le_of_ble_eq_true rfl) h0 h1
theorem hs_95 (zf : Int → Int32) : (HH c r g).set 95 (.inl (0, zr 450 (fun k => zf k))) = HH c (Rf.mk r.row r.was zf r.km r.tp r.ps r.ln r.lb r.sk r.made r.num r.seen r.ou) g := rfl
theorem hw_95 (h0 : 0 ≤ i) (h1 : i < 450) : ab_awr 0 (HH c r g) 95 (qI i) (u) = some (HH c (Rf.mk r.row r.was (zu r.kept i u) r.km r.tp r.ps r.ln r.lb r.sk r.made r.num r.seen r.ou) g) := by rw [zx_wr hc_95 (Nat.le_of_ble_eq_true rfl) h0 h1, zu_S, hs_95]
theorem hl_95 : ab_aln rom (HH c r g) 95 = some (qI 450) := zx_ln hc_95
theorem hc_96 : (HH c r g)[96]? = some (.inl (0, zr 400 (fun k => qI (r.tp.B k)))) := rfl
theorem hr_96 (h0 : 0 ≤ i) (h1 : i < 400) : ab_ard rom 0 (HH c r g) 96 (qI i) = some (qI (r.tp.B i)) := zx_rd hc_96 (Nat.le_of_ble_eq_true rfl) h0 h1
theorem hs_96 (zf : Int → Int) : (HH c r g).set 96 (.inl (0, zr 400 (fun k => qI (zf k)))) = HH c (Rf.mk r.row r.was r.kept r.km ((Tp.mk zf r.tp.L)) r.ps r.ln r.lb r.sk r.made r.num r.seen r.ou) g := rfl
theorem hw_96 (h0 : 0 ≤ i) (h1 : i < 400) : ab_awr 0 (HH c r g) 96 (qI i) (qI (v)) = some (HH c (Rf.mk r.row r.was r.kept r.km ((Tp.mk (zu r.tp.B i v) r.tp.L)) r.ps r.ln r.lb r.sk r.made r.num r.seen r.ou) g) := by rw [zx_wr hc_96 (Nat.le_of_ble_eq_true rfl) h0 h1, zu_qI, hs_96]
theorem hl_96 : ab_aln rom (HH c r g) 96 = some (qI 400) := zx_ln hc_96
theorem hc_97 : (HH c r g)[97]? = some (.inl (0, zr 11 (fun k => qI (r.ln.A k)))) := rfl
theorem hr_97 (h0 : 0 ≤ i) (h1 : i < 11) : ab_ard rom 0 (HH c r g) 97 (qI i) = some (qI (r.ln.A i)) := zx_rd hc_97 (Nat.le_of_ble_eq_true rfl) h0 h1
theorem hs_97 (zf : Int → Int) : (HH c r g).set 97 (.inl (0, zr 11 (fun k => qI (zf k)))) = HH c (Rf.mk r.row r.was r.kept r.km r.tp r.ps ((Ln.mk zf r.ln.B r.ln.many)) r.lb r.sk r.made r.num r.seen r.ou) g := rfl
theorem hw_97 (h0 : 0 ≤ i) (h1 : i < 11) : ab_awr 0 (HH c r g) 97 (qI i) (qI (v)) = some (HH c (Rf.mk r.row r.was r.kept r.km r.tp r.ps ((Ln.mk (zu r.ln.A i v) r.ln.B r.ln.many)) r.lb r.sk r.made r.num r.seen r.ou) g) := by rw [zx_wr hc_97 (Nat.le_of_ble_eq_true rfl) h0 h1, zu_qI, hs_97]
theorem hl_97 : ab_aln rom (HH c r g) 97 = some (qI 11) := zx_ln hc_97
theorem hc_98 : (HH c r g)[98]? = some (.inl (0, zr 11 (fun k => qI (r.ln.B k)))) := rfl
theorem hr_98 (h0 : 0 ≤ i) (h1 : i < 11) : ab_ard rom 0 (HH c r g) 98 (qI i) = some (qI (r.ln.B i)) := zx_rd hc_98 (Nat.le_of_ble_eq_true rfl) h0 h1
theorem hs_98 (zf : Int → Int) : (HH c r g).set 98 (.inl (0, zr 11 (fun k => qI (zf k)))) = HH c (Rf.mk r.row r.was r.kept r.km r.tp r.ps ((Ln.mk r.ln.A zf r.ln.many)) r.lb r.sk r.made r.num r.seen r.ou) g := rfl
theorem hw_98 (h0 : 0 ≤ i) (h1 : i < 11) : ab_awr 0 (HH c r g) 98 (qI i) (qI (v)) = some (HH c (Rf.mk r.row r.was r.kept r.km r.tp r.ps ((Ln.mk r.ln.A (zu r.ln.B i v) r.ln.many)) r.lb r.sk r.made r.num r.seen r.ou) g) := by rw [zx_wr hc_98 (Nat.le_of_ble_eq_true rfl) h0 h1, zu_qI, hs_98]
theorem hl_98 : ab_aln rom (HH c r g) 98 = some (qI 11) := zx_ln hc_98
theorem hc_99 : (HH c r g)[99]? = some (.inl (0, zr 7 (fun k => qI (r.lb.lab k)))) := rfl
theorem hr_99 (h0 : 0 ≤ i) (h1 : i < 7) : ab_ard rom 0 (HH c r g) 99 (qI i) = some (qI (r.lb.lab i)) := zx_rd hc_99 (Nat.le_of_ble_eq_true rfl) h0 h1
theorem hs_99 (zf : Int → Int) : (HH c r g).set 99 (.inl (0, zr 7 (fun k => qI (zf k)))) = HH c (Rf.mk r.row r.was r.kept r.km r.tp r.ps r.ln ((Lb.mk zf r.lb.n r.lb.tree)) r.sk r.made r.num r.seen r.ou) g := rfl
theorem hw_99 (h0 : 0 ≤ i) (h1 : i < 7) : ab_awr 0 (HH c r g) 99 (qI i) (qI (v)) = some (HH c (Rf.mk r.row r.was r.kept r.km r.tp r.ps r.ln ((Lb.mk (zu r.lb.lab i v) r.lb.n r.lb.tree)) r.sk r.made r.num r.seen r.ou) g) := by rw [zx_wr hc_99 (Nat.le_of_ble_eq_true rfl) h0 h1, zu_qI, hs_99]
theorem hl_99 : ab_aln rom (HH c r g) 99 = some (qI 7) := zx_ln hc_99
theorem hc_100 : (HH c r g)[100]? = some (.inl (0, zr 7 (fun k => qI (r.sk.want k)))) := rfl
theorem hr_100 (h0 : 0 ≤ i) (h1 : i < 7) : ab_ard rom 0 (HH c r g) 100 (qI i) = some (qI (r.sk.want i)) := zx_rd hc_100 (Nat.le_of_ble_eq_true rfl) h0 h1
theorem hs_100 (zf : Int → Int) : (HH c r g).set 100 (.inl (0, zr 7 (fun k => qI (zf k)))) = HH c (Rf.mk r.row r.was r.kept r.km r.tp r.ps r.ln r.lb ((Sk.mk zf r.sk.hav r.sk.found r.sk.ends r.sk.unl)) r.made r.num r.seen r.ou) g := rfl
theorem hw_100 (h0 : 0 ≤ i) (h1 : i < 7) : ab_awr 0 (HH c r g) 100 (qI i) (qI (v)) = some (HH c (Rf.mk r.row r.was r.kept r.km r.tp r.ps r.ln r.lb ((Sk.mk (zu r.sk.want i v) r.sk.hav r.sk.found r.sk.ends r.sk.unl)) r.made r.num r.seen r.ou) g) := by rw [zx_wr hc_100 (Nat.le_of_ble_eq_true rfl) h0 h1, zu_qI, hs_100]
theorem hl_100 : ab_aln rom (HH c r g) 100 = some (qI 7) := zx_ln hc_100
theorem hc_101 : (HH c r g)[101]? = some (.inl (0, zr 7 (fun k => r.sk.hav k))) := rfl
theorem hr_101 (h0 : 0 ≤ i) (h1 : i < 7) : ab_ard rom 0 (HH c r g) 101 (qI i) = some (r.sk.hav i) := zx_rd hc_101 (Nat.le_of_ble_eq_true rfl) h0 h1
theorem hs_101 (zf : Int → Int32) : (HH c r g).set 101 (.inl (0, zr 7 (fun k => zf k))) = HH c (Rf.mk r.row r.was r.kept r.km r.tp r.ps r.ln r.lb ((Sk.mk r.sk.want zf r.sk.found r.sk.ends r.sk.unl)) r.made r.num r.seen r.ou) g := rfl
theorem hw_101 (h0 : 0 ≤ i) (h1 : i < 7) : ab_awr 0 (HH c r g) 101 (qI i) (u) = some (HH c (Rf.mk r.row r.was r.kept r.km r.tp r.ps r.ln r.lb ((Sk.mk r.sk.want (zu r.sk.hav i u) r.sk.found r.sk.ends r.sk.unl)) r.made r.num r.seen r.ou) g) := by rw [zx_wr hc_101 (Nat.le_of_ble_eq_true rfl) h0 h1, zu_S, hs_101]
theorem hl_101 : ab_aln rom (HH c r g) 101 = some (qI 7) := zx_ln hc_101
theorem hc_102 : (HH c r g)[102]? = some (.inl (0, zr 15 (fun k => r.made k))) := rfl
theorem hr_102 (h0 : 0 ≤ i) (h1 : i < 15) : ab_ard rom 0 (HH c r g) 102 (qI i) = some (r.made i) := zx_rd hc_102 (Nat.le_of_ble_eq_true rfl) h0 h1
theorem hs_102 (zf : Int → Int32) : (HH c r g).set 102 (.inl (0, zr 15 (fun k => zf k))) = HH c (Rf.mk r.row r.was r.kept r.km r.tp r.ps r.ln r.lb r.sk zf r.num r.seen r.ou) g := rfl
theorem hw_102 (h0 : 0 ≤ i) (h1 : i < 15) : ab_awr 0 (HH c r g) 102 (qI i) (u) = some (HH c (Rf.mk r.row r.was r.kept r.km r.tp r.ps r.ln r.lb r.sk (zu r.made i u) r.num r.seen r.ou) g) := by rw [zx_wr hc_102 (Nat.le_of_ble_eq_true rfl) h0 h1, zu_S, hs_102]
theorem hl_102 : ab_aln rom (HH c r g) 102 = some (qI 15) := zx_ln hc_102
theorem hc_103 : (HH c r g)[103]? = some (.inl (0, zr 12 (fun k => qI (r.num k)))) := rfl
theorem hr_103 (h0 : 0 ≤ i) (h1 : i < 12) : ab_ard rom 0 (HH c r g) 103 (qI i) = some (qI (r.num i)) := zx_rd hc_103 (Nat.le_of_ble_eq_true rfl) h0 h1
theorem hs_103 (zf : Int → Int) : (HH c r g).set 103 (.inl (0, zr 12 (fun k => qI (zf k)))) = HH c (Rf.mk r.row r.was r.kept r.km r.tp r.ps r.ln r.lb r.sk r.made zf r.seen r.ou) g := rfl
theorem hw_103 (h0 : 0 ≤ i) (h1 : i < 12) : ab_awr 0 (HH c r g) 103 (qI i) (qI (v)) = some (HH c (Rf.mk r.row r.was r.kept r.km r.tp r.ps r.ln r.lb r.sk r.made (zu r.num i v) r.seen r.ou) g) := by rw [zx_wr hc_103 (Nat.le_of_ble_eq_true rfl) h0 h1, zu_qI, hs_103]
theorem hl_103 : ab_aln rom (HH c r g) 103 = some (qI 12) := zx_ln hc_103
theorem hc_104 : (HH c r g)[104]? = some (.inl (1, zr 256 (fun k => qB (r.seen k)))) := rfl
theorem hr_104 (h0 : 0 ≤ i) (h1 : i < 256) : ab_ard rom 1 (HH c r g) 104 (qI i) = some (qB (r.seen i)) := zx_rd hc_104 (Nat.le_of_ble_eq_true rfl) h0 h1
theorem hs_104 (zf : Int → Bool) : (HH c r g).set 104 (.inl (1, zr 256 (fun k => qB (zf k)))) = HH c (Rf.mk r.row r.was r.kept r.km r.tp r.ps r.ln r.lb r.sk r.made r.num zf r.ou) g := rfl
theorem hw_104 (h0 : 0 ≤ i) (h1 : i < 256) : ab_awr 1 (HH c r g) 104 (qI i) (qB (b)) = some (HH c (Rf.mk r.row r.was r.kept r.km r.tp r.ps r.ln r.lb r.sk r.made r.num (zu r.seen i b) r.ou) g) := by rw [zx_wr hc_104 (Nat.le_of_ble_eq_true rfl) h0 h1, zu_qB, hs_104]
theorem hc_105 : (HH c r g)[105]? = some (.inl (0, zr 120 (fun k => qI (r.ou.B k)))) := rfl
theorem hr_105 (h0 : 0 ≤ i) (h1 : i < 120) : ab_ard rom 0 (HH c r g) 105 (qI i) = some (qI (r.ou.B i)) := zx_rd hc_105 (Nat.le_of_ble_eq_true rfl) h0 h1
theorem hs_105 (zf : Int → Int) : (HH c r g).set 105 (.inl (0, zr 120 (fun k => qI (zf k)))) = HH c (Rf.mk r.row r.was r.kept r.km r.tp r.ps r.ln r.lb r.sk r.made r.num r.seen ((Tp.mk zf r.ou.L))) g := rfl
theorem hw_105 (h0 : 0 ≤ i) (h1 : i < 120) : ab_awr 0 (HH c r g) 105 (qI i) (qI (v)) = some (HH c (Rf.mk r.row r.was r.kept r.km r.tp r.ps r.ln r.lb r.sk r.made r.num r.seen ((Tp.mk (zu r.ou.B i v) r.ou.L))) g) := by rw [zx_wr hc_105 (Nat.le_of_ble_eq_true rfl) h0 h1, zu_qI, hs_105]
theorem hl_105 : ab_aln rom (HH c r g) 105 = some (qI 120) := zx_ln hc_105
theorem hc_n (hj : j < 14) : (HH c r g)[pl j]? = some (nobj (pl j) (c.net j)) := by
  match j, hj with
  | 0, _ => rfl
  | 1, _ => rfl
  | 2, _ => rfl
  | 3, _ => rfl
  | 4, _ => rfl
  | 5, _ => rfl
  | 6, _ => rfl
  | 7, _ => rfl
  | 8, _ => rfl
  | 9, _ => rfl
  | 10, _ => rfl
  | 11, _ => rfl
  | 12, _ => rfl
  | 13, _ => rfl
  | (q + 14), hj => exact absurd hj (by omega)
theorem hc_lo (hj : j < 14) : (HH c r g)[pl j + 1]? = some (nlo (c.net j)) := by
  match j, hj with
  | 0, _ => rfl
  | 1, _ => rfl
  | 2, _ => rfl
  | 3, _ => rfl
  | 4, _ => rfl
  | 5, _ => rfl
  | 6, _ => rfl
  | 7, _ => rfl
  | 8, _ => rfl
  | 9, _ => rfl
  | 10, _ => rfl
  | 11, _ => rfl
  | 12, _ => rfl
  | 13, _ => rfl
  | (q + 14), hj => exact absurd hj (by omega)
theorem hc_hi (hj : j < 14) : (HH c r g)[pl j + 2]? = some (nhi (c.net j)) := by
  match j, hj with
  | 0, _ => rfl
  | 1, _ => rfl
  | 2, _ => rfl
  | 3, _ => rfl
  | 4, _ => rfl
  | 5, _ => rfl
  | 6, _ => rfl
  | 7, _ => rfl
  | 8, _ => rfl
  | 9, _ => rfl
  | 10, _ => rfl
  | 11, _ => rfl
  | 12, _ => rfl
  | 13, _ => rfl
  | (q + 14), hj => exact absurd hj (by omega)
theorem hc_lab (hj : j < 14) : (HH c r g)[pl j + 3]? = some (nlab (c.net j)) := by
  match j, hj with
  | 0, _ => rfl
  | 1, _ => rfl
  | 2, _ => rfl
  | 3, _ => rfl
  | 4, _ => rfl
  | 5, _ => rfl
  | 6, _ => rfl
  | 7, _ => rfl
  | 8, _ => rfl
  | 9, _ => rfl
  | 10, _ => rfl
  | 11, _ => rfl
  | 12, _ => rfl
  | 13, _ => rfl
  | (q + 14), hj => exact absurd hj (by omega)
theorem hc_bes (hj : j < 14) : (HH c r g)[pl j + 4]? = some (nbes (c.net j)) := by
  match j, hj with
  | 0, _ => rfl
  | 1, _ => rfl
  | 2, _ => rfl
  | 3, _ => rfl
  | 4, _ => rfl
  | 5, _ => rfl
  | 6, _ => rfl
  | 7, _ => rfl
  | 8, _ => rfl
  | 9, _ => rfl
  | 10, _ => rfl
  | 11, _ => rfl
  | 12, _ => rfl
  | 13, _ => rfl
  | (q + 14), hj => exact absurd hj (by omega)
theorem hi_n (hj : j < 14) : ab_iso (HH c r g) (pl j) 1 = true := ab_iso_at (hc_n hj)
theorem hf_nn (hj : j < 14) : ab_fld (HH c r g) (pl j) 1 0 = some (.int (qI (c.net j).n)) := (ab_fld_at (hc_n hj)).trans rfl
theorem hf_nm (hj : j < 14) : ab_fld (HH c r g) (pl j) 1 1 = some (.int (qI (c.net j).m)) := (ab_fld_at (hc_n hj)).trans rfl
theorem hf_nlo (hj : j < 14) : ab_fld (HH c r g) (pl j) 1 2 = some (.ref (pl j + 1)) := (ab_fld_at (hc_n hj)).trans rfl
theorem hf_nhi (hj : j < 14) : ab_fld (HH c r g) (pl j) 1 3 = some (.ref (pl j + 2)) := (ab_fld_at (hc_n hj)).trans rfl
theorem hf_nlab (hj : j < 14) : ab_fld (HH c r g) (pl j) 1 4 = some (.ref (pl j + 3)) := (ab_fld_at (hc_n hj)).trans rfl
theorem hf_nbes (hj : j < 14) : ab_fld (HH c r g) (pl j) 1 5 = some (.ref (pl j + 4)) := (ab_fld_at (hc_n hj)).trans rfl
theorem hr_lo (hj : j < 14) (h0 : 0 ≤ i) (h1 : i < 10) : ab_ard rom 0 (HH c r g) (pl j + 1) (qI i) = some (qI ((c.net j).lo i)) := zx_rd (hc_lo hj) (Nat.le_of_ble_eq_true rfl) h0 h1
theorem hs_lo (hj : j < 14) (zf : Int → Int) : (HH c r g).set (pl j + 1) (.inl (0, zr 10 (fun k => qI (zf k)))) = HH (Cl.mk (zn c.net j (NR.mk (c.net j).n (c.net j).m zf (c.net j).hi (c.net j).lab (c.net j).bes)) c.tp c.ou c.rd c.pa c.se c.ce c.mks c.ga c.fn c.fp) r g := by
  match j, hj with
  | 0, _ => rfl
  | 1, _ => rfl
  | 2, _ => rfl
  | 3, _ => rfl
  | 4, _ => rfl
  | 5, _ => rfl
  | 6, _ => rfl
  | 7, _ => rfl
  | 8, _ => rfl
  | 9, _ => rfl
  | 10, _ => rfl
  | 11, _ => rfl
  | 12, _ => rfl
  | 13, _ => rfl
  | (q + 14), hj => exact absurd hj (by omega)
theorem hw_lo (hj : j < 14) (h0 : 0 ≤ i) (h1 : i < 10) : ab_awr 0 (HH c r g) (pl j + 1) (qI i) (qI (v)) = some (HH (Cl.mk (zn c.net j (NR.mk (c.net j).n (c.net j).m (zu (c.net j).lo i v) (c.net j).hi (c.net j).lab (c.net j).bes)) c.tp c.ou c.rd c.pa c.se c.ce c.mks c.ga c.fn c.fp) r g) := by rw [zx_wr (hc_lo hj) (Nat.le_of_ble_eq_true rfl) h0 h1, zu_qI, hs_lo hj]
theorem hr_hi (hj : j < 14) (h0 : 0 ≤ i) (h1 : i < 10) : ab_ard rom 0 (HH c r g) (pl j + 2) (qI i) = some (qI ((c.net j).hi i)) := zx_rd (hc_hi hj) (Nat.le_of_ble_eq_true rfl) h0 h1
theorem hs_hi (hj : j < 14) (zf : Int → Int) : (HH c r g).set (pl j + 2) (.inl (0, zr 10 (fun k => qI (zf k)))) = HH (Cl.mk (zn c.net j (NR.mk (c.net j).n (c.net j).m (c.net j).lo zf (c.net j).lab (c.net j).bes)) c.tp c.ou c.rd c.pa c.se c.ce c.mks c.ga c.fn c.fp) r g := by
  match j, hj with
  | 0, _ => rfl
  | 1, _ => rfl
  | 2, _ => rfl
  | 3, _ => rfl
  | 4, _ => rfl
  | 5, _ => rfl
  | 6, _ => rfl
  | 7, _ => rfl
  | 8, _ => rfl
  | 9, _ => rfl
  | 10, _ => rfl
  | 11, _ => rfl
  | 12, _ => rfl
  | 13, _ => rfl
  | (q + 14), hj => exact absurd hj (by omega)
theorem hw_hi (hj : j < 14) (h0 : 0 ≤ i) (h1 : i < 10) : ab_awr 0 (HH c r g) (pl j + 2) (qI i) (qI (v)) = some (HH (Cl.mk (zn c.net j (NR.mk (c.net j).n (c.net j).m (c.net j).lo (zu (c.net j).hi i v) (c.net j).lab (c.net j).bes)) c.tp c.ou c.rd c.pa c.se c.ce c.mks c.ga c.fn c.fp) r g) := by rw [zx_wr (hc_hi hj) (Nat.le_of_ble_eq_true rfl) h0 h1, zu_qI, hs_hi hj]
theorem hr_lab (hj : j < 14) (h0 : 0 ≤ i) (h1 : i < 7) : ab_ard rom 0 (HH c r g) (pl j + 3) (qI i) = some (qI ((c.net j).lab i)) := zx_rd (hc_lab hj) (Nat.le_of_ble_eq_true rfl) h0 h1
theorem hs_lab (hj : j < 14) (zf : Int → Int) : (HH c r g).set (pl j + 3) (.inl (0, zr 7 (fun k => qI (zf k)))) = HH (Cl.mk (zn c.net j (NR.mk (c.net j).n (c.net j).m (c.net j).lo (c.net j).hi zf (c.net j).bes)) c.tp c.ou c.rd c.pa c.se c.ce c.mks c.ga c.fn c.fp) r g := by
  match j, hj with
  | 0, _ => rfl
  | 1, _ => rfl
  | 2, _ => rfl
  | 3, _ => rfl
  | 4, _ => rfl
  | 5, _ => rfl
  | 6, _ => rfl
  | 7, _ => rfl
  | 8, _ => rfl
  | 9, _ => rfl
  | 10, _ => rfl
  | 11, _ => rfl
  | 12, _ => rfl
  | 13, _ => rfl
  | (q + 14), hj => exact absurd hj (by omega)
theorem hw_lab (hj : j < 14) (h0 : 0 ≤ i) (h1 : i < 7) : ab_awr 0 (HH c r g) (pl j + 3) (qI i) (qI (v)) = some (HH (Cl.mk (zn c.net j (NR.mk (c.net j).n (c.net j).m (c.net j).lo (c.net j).hi (zu (c.net j).lab i v) (c.net j).bes)) c.tp c.ou c.rd c.pa c.se c.ce c.mks c.ga c.fn c.fp) r g) := by rw [zx_wr (hc_lab hj) (Nat.le_of_ble_eq_true rfl) h0 h1, zu_qI, hs_lab hj]
theorem hr_bes (hj : j < 14) (h0 : 0 ≤ i) (h1 : i < 7) : ab_ard rom 0 (HH c r g) (pl j + 4) (qI i) = some ((c.net j).bes i) := zx_rd (hc_bes hj) (Nat.le_of_ble_eq_true rfl) h0 h1
theorem hs_bes (hj : j < 14) (zf : Int → Int32) : (HH c r g).set (pl j + 4) (.inl (0, zr 7 (fun k => zf k))) = HH (Cl.mk (zn c.net j (NR.mk (c.net j).n (c.net j).m (c.net j).lo (c.net j).hi (c.net j).lab zf)) c.tp c.ou c.rd c.pa c.se c.ce c.mks c.ga c.fn c.fp) r g := by
  match j, hj with
  | 0, _ => rfl
  | 1, _ => rfl
  | 2, _ => rfl
  | 3, _ => rfl
  | 4, _ => rfl
  | 5, _ => rfl
  | 6, _ => rfl
  | 7, _ => rfl
  | 8, _ => rfl
  | 9, _ => rfl
  | 10, _ => rfl
  | 11, _ => rfl
  | 12, _ => rfl
  | 13, _ => rfl
  | (q + 14), hj => exact absurd hj (by omega)
theorem hw_bes (hj : j < 14) (h0 : 0 ≤ i) (h1 : i < 7) : ab_awr 0 (HH c r g) (pl j + 4) (qI i) (u) = some (HH (Cl.mk (zn c.net j (NR.mk (c.net j).n (c.net j).m (c.net j).lo (c.net j).hi (c.net j).lab (zu (c.net j).bes i u))) c.tp c.ou c.rd c.pa c.se c.ce c.mks c.ga c.fn c.fp) r g) := by rw [zx_wr (hc_bes hj) (Nat.le_of_ble_eq_true rfl) h0 h1, zu_S, hs_bes hj]
theorem hs_n (hj : j < 14) (x y : Int) : (HH c r g).set (pl j) (.inr (.inr (1, [.int (qI x), .int (qI y), .ref (pl j + 1), .ref (pl j + 2), .ref (pl j + 3), .ref (pl j + 4)]))) = HH (Cl.mk (zn c.net j (NR.mk x y (c.net j).lo (c.net j).hi (c.net j).lab (c.net j).bes)) c.tp c.ou c.rd c.pa c.se c.ce c.mks c.ga c.fn c.fp) r g := by
  match j, hj with
  | 0, _ => rfl
  | 1, _ => rfl
  | 2, _ => rfl
  | 3, _ => rfl
  | 4, _ => rfl
  | 5, _ => rfl
  | 6, _ => rfl
  | 7, _ => rfl
  | 8, _ => rfl
  | 9, _ => rfl
  | 10, _ => rfl
  | 11, _ => rfl
  | 12, _ => rfl
  | 13, _ => rfl
  | (q + 14), hj => exact absurd hj (by omega)
theorem hp_nn (hj : j < 14) : ab_fpt (HH c r g) (pl j) 1 0 (.int (qI v)) = some (HH (Cl.mk (zn c.net j (NR.mk v (c.net j).m (c.net j).lo (c.net j).hi (c.net j).lab (c.net j).bes)) c.tp c.ou c.rd c.pa c.se c.ce c.mks c.ga c.fn c.fp) r g) := by
  rw [ab_fpt_at (hc_n hj) (Nat.le_of_ble_eq_true rfl)]
  exact congrArg some (hs_n hj v (c.net j).m)
theorem hp_nm (hj : j < 14) : ab_fpt (HH c r g) (pl j) 1 1 (.int (qI v)) = some (HH (Cl.mk (zn c.net j (NR.mk (c.net j).n v (c.net j).lo (c.net j).hi (c.net j).lab (c.net j).bes)) c.tp c.ou c.rd c.pa c.se c.ce c.mks c.ga c.fn c.fp) r g) := by
  rw [ab_fpt_at (hc_n hj) (Nat.le_of_ble_eq_true rfl)]
  exact congrArg some (hs_n hj (c.net j).n v)
theorem hq_slot (h0 : 0 ≤ i) (h1 : i < 3) : ab_rrd (HH c r g) 5 (qI i) = some (pl i.toNat) := by
  have e : i = 0 ∨ i = 1 ∨ i = 2 := by omega
  rcases e with e | e | e <;> subst e <;> rfl
theorem hq_past (h0 : 0 ≤ i) (h1 : i < 10) : ab_rrd (HH c r g) 28 (qI i) = some (pl (4 + i.toNat)) := by
  have e : i = 0 ∨ i = 1 ∨ i = 2 ∨ i = 3 ∨ i = 4 ∨ i = 5 ∨ i = 6 ∨ i = 7 ∨ i = 8 ∨ i = 9 := by omega
  rcases e with e | e | e | e | e | e | e | e | e | e <;> subst e <;> rfl
end
