section ABZ
variable {Sx : ab_SX} {p : Program} {l : Launch} {e : Env} {R : Room} {s : State} {m : MethodId} {args : Array Value} {below : List Frame} {meth : Method} {c : Code} {Q : State → Prop}
variable {cc : ByteArray} {cn rt nL c0 z0 : Nat} {D : va_G} {cy : Nat → ClassId} {B : Nat} {rv : Nat → Nat} {rom : List (List Int32)}
/-- a body: all its steps -/
theorem ab_body (hX : ab_SxOK Sx) (X : ab_Cx Sx p R s m args meth c cc cn rt nL c0 D cy B rv rom) {K : Nat → List Value → ab_H → Option ab_O} {d : Nat} (hKm : ab_KOK Sx l D cy B rv rom d K) (hRd : d + 1 ≤ R.frames ∧ 41 * d + 39 ≤ R.locals) {o : ab_O} (hr : o.2.length ≤ R.cells + c0) (hz : ab_szs o.2 ≤ R.slots + z0)
    (hei : ∀ (pc : Nat) (ls : List Value) (hp : ab_H) (v : Int32), decode cc pc = .ok (.ireturn, 1) → o = (some (.int v), hp) → (rt = 1 ∨ (rt = 2 ∧ (v = 0 ∨ v = 1))) → ab_Go p l e R s m args below meth c Q D cy B rv nL c0 z0 pc ls [.int v] hp)
    (hev : ∀ (pc : Nat) (ls : List Value) (hp : ab_H), decode cc pc = .ok (.return_, 1) → o = (none, hp) → (rt = 0 ∨ rt = 3) → ab_Go p l e R s m args below meth c Q D cy B rv nL c0 z0 pc ls [] hp) :
    ∀ (n pc : Nat) (ls st : List Value) (hp : ab_H), ab_ex rom K cc cn rt n pc ls st hp = some o → ab_Go p l e R s m args below meth c Q D cy B rv nL c0 z0 pc ls st hp := by
  intro n
  induction n with
  | zero => intro pc ls st hp h; cases h
  | succ n ih =>
    intro pc ls st hp h
    have hmono : ∀ mid as hp v hp2, K mid as hp = some (v, hp2) → ab_le hp hp2 := fun mid as hp v hp2 hk => (hKm mid as hp v hp2 hk).1
    unfold ab_ex at h
    cases hd : decode cc pc with
    | error _ => rw [hd] at h; cases h
    | ok q =>
      rw [hd] at h
      obtain ⟨i, len⟩ := q
      simp only at h
      cases hs : ab_s rom cn rt i len pc ls st hp with
      | none => rw [hs] at h; cases h
      | some r =>
        rw [hs] at h
        match r, h, hs with
        | .inl (pc2, ls2, st2, hp2), h, hs =>
          have hle := ab_ex_le2 hmono h
          exact ab_kI hX X hd hs (Nat.le_trans hle.1 hr) (Nat.le_trans hle.2 hz) (ih pc2 ls2 st2 hp2 h)
        | .inr (.inl o2), h, hs =>
          have e9 : o2 = o := Option.some.inj h
          subst e9
          rcases ab_ret_inv hs with ⟨h1, h2, v, h3, h4, h5⟩ | ⟨h1, h2, h3, h4, h5⟩
          · subst h1; subst h2; subst h3
            exact hei pc ls hp v hd h5 h4
          · subst h1; subst h2; subst h3
            exact hev pc ls hp hd h5 h4
        | .inr (.inr (mid, as, pc2, ls2, rest, hp1)), h, hs =>
          simp only [ab_next] at h
          cases hk : K mid as hp1 with
          | none => rw [hk] at h; cases h
          | some q =>
            obtain ⟨v, hp2⟩ := q
            rw [hk] at h
            have hle := ab_ex_le2 hmono h
            exact ab_kC hX X hd hKm hRd hs hk (Nat.le_trans hle.1 hr) (Nat.le_trans hle.2 hz) (ih _ _ _ _ h)
end ABZ
theorem ab_ex_ret {rom : List (List Int32)} {K : Nat → List Value → ab_H → Option ab_O} {b : ByteArray} {cn rt : Nat} : ∀ {n pc : Nat} {ls st : List Value} {hp : ab_H} {o : ab_O}, ab_ex rom K b cn rt n pc ls st hp = some o → o.1 = none ∨ ∃ r, o.1 = some (.int r)
  | 0, _, _, _, _, _, h => by cases h
  | n + 1, pc, ls, st, hp, o, h => by
    unfold ab_ex at h
    cases hd : decode b pc with
    | error _ => rw [hd] at h; cases h
    | ok q =>
      rw [hd] at h
      obtain ⟨i, len⟩ := q
      simp only at h
      cases hs : ab_s rom cn rt i len pc ls st hp with
      | none => rw [hs] at h; cases h
      | some r =>
        rw [hs] at h
        match r, h, hs with
        | .inl (pc2, ls2, st2, hp2), h, hs => exact ab_ex_ret h
        | .inr (.inl o2), h, hs =>
          have e9 : o2 = o := Option.some.inj h
          subst e9
          rcases ab_ret_inv hs with ⟨h1, h2, v, h3, h4, h5⟩ | ⟨h1, h2, h3, h4, h5⟩
          · subst h5
            exact Or.inr ⟨v, rfl⟩
          · subst h5
            exact Or.inl rfl
        | .inr (.inr (mid, as, pc2, ls2, rest, hp1)), h, hs =>
          simp only [ab_next] at h
          cases hk : K mid as hp1 with
          | none => rw [hk] at h; cases h
          | some q =>
            obtain ⟨v, hp2⟩ := q
            rw [hk] at h
            exact ab_ex_ret h
theorem ab_prim_inv {mid : Nat} {as : List Value} {hp hp2 : ab_H} {v : Option Value} (h : ab_prim mid as hp = some (v, hp2)) : hp2 = hp ∧ ∃ r, v = some (.int r) := by
  unfold ab_prim at h
  split at h
  · obtain ⟨-, h2⟩ := ab_if h
    obtain ⟨xs, -, h3⟩ := Option.map_eq_some_iff.mp h2
    cases h3
    exact ⟨rfl, _, rfl⟩
  · obtain ⟨-, h2⟩ := ab_if h
    obtain ⟨xs, -, h3⟩ := Option.bind_eq_some_iff.mp h2
    obtain ⟨x, -, h4⟩ := Option.map_eq_some_iff.mp h3
    cases h4
    exact ⟨rfl, _, rfl⟩
  · cases h
set_option maxHeartbeats 4000000 in
/-- EVERY METHOD: what the small machine answers at depth d, the Statement's machine does -/
theorem ab_sound {Sx : ab_SX} (hX : ab_SxOK Sx) (l : Launch) (D : va_G) (cy : Nat → ClassId) (B : Nat) (rv : Nat → Nat) (rom : List (List Int32)) : ∀ d, ab_KOK Sx l D cy B rv rom d (ab_M rom d) := by
  intro d
  induction d with
  | zero => intro mid as hp v hp2 h; cases h
  | succ d ih =>
    intro mid as hp v hp2 h
    unfold ab_M at h
    cases hq : ab_mT[mid]? with
    | none =>
      rw [hq] at h
      simp only at h
      obtain ⟨⟨h1, h2⟩, h3⟩ := ab_if h
      obtain ⟨e9, r, hv⟩ := ab_prim_inv h3
      subst e9
      exact ⟨ab_le_rfl, Or.inr ⟨r, hv⟩, (fun y b n rt cn h9 => by cases h9), fun _ => ⟨by omega, rfl, h3⟩⟩
    | some q =>
      rw [hq] at h
      obtain ⟨y, b, n, rt, cn⟩ := q
      simp only at h
      obtain ⟨hsl, h⟩ := ab_if h
      obtain ⟨k, hk⟩ := ab_X_iff.mp h
      have hmono : ∀ mid as hp v hp2, ab_M rom d mid as hp = some (v, hp2) → ab_le hp hp2 := fun mid as hp v hp2 hk => (ih mid as hp v hp2 hk).1
      have hle : ab_le hp hp2 := ab_ex_le2 hmono hk
      have hlt : mid < 267 := by rw [← ab_mT_len]; exact (List.getElem?_eq_some_iff.mp hq).1
      refine ⟨hle, ab_ex_ret hk, ?_, fun h9 => by omega⟩
      intro y2 b2 n2 rt2 cn2 h9
      cases h9
      obtain ⟨m1, m2, m3, m4, m5, m6, m7, m8⟩ := ab_m_ok hq
      refine Met.ofW (cc := b) (maxL := n) (ret := ab_ret rt) m3 rfl ?_
      intro p e s m args below meth c s₁ Bd hml hv
      obtain ⟨rfl, hsz, hRO, hP, hK, hro⟩ := hv
      have hx := Bd.exec
      have hb := Bd.bytes
      have hret := Bd.returns
      have hts0 := atoms_spec (ws := Jvm.Cond.code y b n (ab_ret rt) :: ab_W) Bd.pre
      have hts : ∀ w ∈ ab_W, w.before (List.map (ab_v B rv) as).toArray s = true := fun w hw => hts0 w (List.mem_cons_of_mem _ hw)
      have hown : s.vm.findClass (ab_cl cn) = some m.cls := by rw [← m2]; exact findClass_of_methodNamed Bd.named
      have hlocks := Bd.notSynchronized
      have hin : rt = 3 → meth.name = "<init>" := fun h9 => by rw [(name_of_methodNamed Bd.named Bd.method).1]; exact m4.mp h9
      have hmc := hle.1
      have hms := hle.2
      have X : ab_Cx Sx p (ab_rm (d + 1) hp hp2) s m (List.map (ab_v B rv) as).toArray meth c b cn rt n hp.length D cy B rv rom := ⟨hx, hb, hml, hown, hts, hin, hK, hro, hsz, by show 1 ≤ d + 1; omega, by show 41 ≤ 41 * (d + 1); omega⟩
      show W p l e (ab_rm (d + 1) hp hp2) s m (List.map (ab_v B rv) as).toArray below meth c s.heap [] 0 0 _ (entryFrame m (List.map (ab_v B rv) as).toArray n)
      rw [lg_entry_eq]
      have hworld : ∀ (H : Heap) (locs : List Loc), va_P D ab_vw (ab_w B rv cy hp2) H → hp2.length ≤ ab_RO → va_S (ab_A B) s.heap H locs → H.size = B + hp2.length → ∀ t : State, t.heap = H → s.WarmedH t.vm → ab_Ws Sx D cy B rv rom hp2 t := fun H locs b1 b2 b3 b4 t ht hW => ⟨by rw [ht]; exact b4, b2, by rw [ht]; exact b1, va_K.moved hW.alike hK, hro.warm hX (by omega) hW (fun q h1 h2 => by rw [ht]; exact b3.2.1 q h1 h2)⟩
      refine ab_body (z0 := ab_szs hp) (o := (v, hp2)) hX X ih ⟨Nat.le_refl _, by show 41 * d + 39 ≤ 41 * (d + 1); omega⟩ (by show hp2.length ≤ (hp2.length - hp.length) + hp.length; omega) (by show ab_szs hp2 ≤ (ab_szs hp2 - ab_szs hp) + ab_szs hp; omega) ?_ ?_ k 0 (ab_ent as n) [] hp hk s.heap [] 0 0 _ hP hRO va_S.rf (ab_entry B rv as hsl) (Nat.zero_add _) (Nat.zero_add _)
      · intro pc ls hp3 v3 hd ho hrt H locs cells slots als a1 a2 a3 a4 a5 a6
        cases ho
        refine ab_Wsz fun hH => ?_
        have hHz := ab_size a1 a3 hsz a5 hH
        obtain rfl : cells = hp2.length - hp.length := by omega
        obtain rfl : slots = ab_szs hp2 - ab_szs hp := by omega
        rcases hrt with h1 | ⟨h1, h2⟩
        · subst h1
          exact W.iret (v := v3) hx hb hret (fun t ht hW => ⟨⟨v3, (), rfl, rfl, hworld H locs a1 a2 a3 hHz t ht hW⟩, a3.F ht⟩) a3.2.2 hd hlocks
        · subst h1
          exact W.zret (v := v3) (ty := .boolean) hx hb hret (by rcases h2 with h2 | h2 <;> subst h2 <;> simp [narrow]) (fun t ht hW => ⟨⟨v3, (), rfl, rfl, hworld H locs a1 a2 a3 hHz t ht hW⟩, a3.F ht⟩) a3.2.2 hd hlocks
      · intro pc ls hp3 hd ho hrt H locs cells slots als a1 a2 a3 a4 a5 a6
        cases ho
        refine ab_Wsz fun hH => ?_
        have hHz := ab_size a1 a3 hsz a5 hH
        obtain rfl : cells = hp2.length - hp.length := by omega
        obtain rfl : slots = ab_szs hp2 - ab_szs hp := by omega
        have hret2 : meth.sig.returnType = none := by
          rcases hrt with h1 | h1 <;> subst h1 <;> exact hret
        exact W.vret hx hb hret2 (fun t ht hW => ⟨⟨(), rfl, trivial, hworld H locs a1 a2 a3 hHz t ht hW⟩, a3.F ht⟩) a3.2.2 hd hlocks
