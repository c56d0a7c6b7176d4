/-! THE SMALL MACHINE'S CELLS AS THE KIT'S WORLDS: place k lies at address B + k; what is read only lies below B, at rv j -/
def ab_ad (B : Nat) (rv : Nat → Nat) (a : Nat) : Nat := if a < ab_RO then B + a else rv (a - ab_RO)
def ab_v (B : Nat) (rv : Nat → Nat) : Value → Value
  | .ref a => .ref (ab_ad B rv a)
  | v => v
def ab_e (B : Nat) (rv : Nat → Nat) (cy : Nat → ClassId) : ab_C → va_E
  | .inl (t, xs) => .inl (cy t, xs.length, .inl (fun j => xs.getD j 0))
  | .inr (.inl rs) => .inl (cy 2, rs.length, .inr (.inr (.inr (.inr (fun j => (rs.getD j none).map (ab_ad B rv))))))
  | .inr (.inr (ci, fs)) => .inr (ci, fs.map (ab_v B rv))
def ab_w (B : Nat) (rv : Nat → Nat) (cy : Nat → ClassId) (hp : ab_H) : va_W := hp.mapIdx (fun k q => (B + k, ab_e B rv cy q))
def ab_ty (cy : Nat → ClassId) : List (ClassId × FieldType) := [(cy 0, .int), (cy 1, .boolean), (cy 2, .object RX3)]
def ab_A (B : Nat) : Nat → Prop := fun q => B ≤ q
section ABW
variable {B : Nat} {rv : Nat → Nat} {cy : Nat → ClassId} {hp : ab_H} {k : Nat} {q : ab_C}
theorem ab_w_len : (ab_w B rv cy hp).length = hp.length := by simp [ab_w]
theorem ab_w_get : (ab_w B rv cy hp)[k]? = (hp[k]?).map (fun q => (B + k, ab_e B rv cy q)) := by simp [ab_w, List.getElem?_mapIdx]
theorem ab_w_at (h : hp[k]? = some q) : (ab_w B rv cy hp)[k]? = some (B + k, ab_e B rv cy q) := by rw [ab_w_get, h]; rfl
theorem ab_lt (h : hp[k]? = some q) : k < hp.length := (List.getElem?_eq_some_iff.mp h).1
theorem ab_ad_lt (h : hp[k]? = some q) (hl : hp.length ≤ ab_RO) : ab_ad B rv k = B + k := if_pos (Nat.lt_of_lt_of_le (ab_lt h) hl)
theorem ab_ad_ro (j : Nat) : ab_ad B rv (ab_RO + j) = rv j := by
  unfold ab_ad
  rw [if_neg (Nat.not_lt.mpr (Nat.le_add_right _ _)), Nat.add_sub_cancel_left]
theorem ab_w_set (hk : k < hp.length) : (ab_w B rv cy hp).set k (B + k, ab_e B rv cy q) = ab_w B rv cy (hp.set k q) := by
  apply List.ext_getElem?
  intro i
  rw [ab_w_get, List.getElem?_set, List.getElem?_set, ab_w_get, ab_w_len]
  by_cases hi : k = i
  · subst hi
    simp [hk]
  · simp [hi]
theorem ab_w_app : ab_w B rv cy (hp ++ [q]) = ab_w B rv cy hp ++ [(B + hp.length, ab_e B rv cy q)] := by
  apply List.ext_getElem?
  intro i
  rw [ab_w_get]
  by_cases hi : i < hp.length
  · rw [List.getElem?_append_left hi, List.getElem?_append_left (by rw [ab_w_len]; exact hi), ab_w_get]
  · rw [List.getElem?_append_right (by omega), List.getElem?_append_right (by rw [ab_w_len]; omega), ab_w_len]
    by_cases h2 : i = hp.length
    · subst h2
      simp
    · have : i - hp.length ≠ 0 := by omega
      cases hz : i - hp.length with
      | zero => exact absurd hz this
      | succ z => simp
theorem ab_wD : va_D (ab_A B) (ab_w B rv cy hp) := by
  have key : ∀ (i : Nat) (p : Nat × va_E), (ab_w B rv cy hp)[i]? = some p → p.1 = B + i := by
    intro i p h
    rw [ab_w_get] at h
    cases hq : hp[i]? with
    | none => rw [hq] at h; cases h
    | some z => rw [hq] at h; cases h; rfl
  refine ⟨fun i j p q hi hj he => ?_, fun i p hi => ?_⟩
  · have h1 := key i p hi
    have h2 := key j q hj
    omega
  · show B ≤ p.1
    rw [key i p hi]
    omega
theorem ab_fset (xs : List Int32) (i : Nat) (x : Int32) (hi : i < xs.length) : (fun j => (xs.set i x).getD j 0) = upd (fun j => xs.getD j 0) i x := by
  funext j
  simp only [upd, List.getD_eq_getElem?_getD, List.getElem?_set]
  by_cases hj : i = j
  · subst hj
    simp [hi]
  · simp [hj, Ne.symm hj]
theorem ab_qset (rs : List (Option Nat)) (i v : Nat) (hi : i < rs.length) : (fun j => ((rs.set i (some v)).getD j none).map (ab_ad B rv)) = va_up (fun j => (rs.getD j none).map (ab_ad B rv)) i (some (ab_ad B rv v)) := by
  funext j
  simp only [va_up, List.getD_eq_getElem?_getD, List.getElem?_set]
  by_cases hj : i = j
  · subst hj
    simp [hi]
  · simp [hj, Ne.symm hj]
theorem ab_vset (fs : List Value) (i : Nat) (v : Value) : (fs.set i v).map (ab_v B rv) = (fs.map (ab_v B rv)).set i (ab_v B rv v) := by simp [List.map_set]
theorem ab_cpy_len (xs ys : List Int32) (sp dp n : Nat) (h1 : sp + n ≤ xs.length) (h2 : dp + n ≤ ys.length) : (ab_cpy xs ys sp dp n).length = ys.length := by
  simp only [ab_cpy, List.length_append, List.length_take, List.length_drop]
  omega
theorem ab_fcpy (xs ys : List Int32) (sp dp n : Nat) (h1 : sp + n ≤ xs.length) (h2 : dp + n ≤ ys.length) : (fun j => (ab_cpy xs ys sp dp n).getD j 0) = va_cpy (fun j => xs.getD j 0) (fun j => ys.getD j 0) sp dp n := by
  funext j
  simp only [va_cpy, ab_cpy, List.getD_eq_getElem?_getD]
  have e1 : (ys.take dp).length = dp := by rw [List.length_take]; omega
  have e2 : ((xs.drop sp).take n).length = n := by rw [List.length_take, List.length_drop]; omega
  by_cases ha : j < dp
  · rw [List.getElem?_append_left (by omega), if_neg (by omega), List.getElem?_take, if_pos ha]
  · rw [List.getElem?_append_right (by omega), e1]
    by_cases hb : j < dp + n
    · rw [List.getElem?_append_left (by omega), if_pos ⟨by omega, hb⟩, List.getElem?_take, if_pos (by omega), List.getElem?_drop]
    · rw [List.getElem?_append_right (by omega), e2, if_neg (by omega), List.getElem?_drop]
      congr 2
      omega
theorem ab_cat (v : Value) : (ab_v B rv v).category = v.category := by cases v <;> rfl
theorem ab_cats (st : List Value) (h : st.length ≤ 4) : ((st.map (ab_v B rv)).map fun v => v.category).sum ≤ 8 := by
  have key : ∀ l : List Value, ((l.map (ab_v B rv)).map fun v => v.category).sum ≤ 2 * l.length := by
    intro l
    induction l with
    | nil => simp
    | cons a l ih =>
      have := lv_cat (ab_v B rv a)
      simp only [List.map_cons, List.sum_cons, List.length_cons]
      simp only [List.map_map] at ih ⊢
      omega
  have := key st
  omega
end ABW
/-- locals: what is known of them; null says: unknown -/
def ab_rel (B : Nat) (rv : Nat → Nat) (nL : Nat) (xs : List Value) (ls : Array Slot) : Prop := xs.length = nL ∧ ∃ lv, lv_has ls nL lv ∧ ∀ (i : Nat) (v : Value), xs[i]? = some v → v ≠ .null → (i, ab_v B rv v) ∈ lv
theorem ab_rel.at {B : Nat} {rv : Nat → Nat} {nL i : Nat} {xs : List Value} {ls : Array Slot} {v : Value} (h : ab_rel B rv nL xs ls) (hi : xs[i]? = some v) (hv : v ≠ .null) : ls[i]? = some (.val (ab_v B rv v)) := by
  obtain ⟨-, lv, h1, h2⟩ := h
  exact h1.2.2 _ (h2 i v hi hv)
theorem ab_rel.size {B : Nat} {rv : Nat → Nat} {nL : Nat} {xs : List Value} {ls : Array Slot} (h : ab_rel B rv nL xs ls) : ls.size = nL := by
  obtain ⟨-, lv, h1, -⟩ := h
  exact h1.1
theorem ab_rel.put {B : Nat} {rv : Nat → Nat} {nL i : Nat} {xs : List Value} {ls : Array Slot} {lv : List (Nat × Value)} {v : Value} (hlen : xs.length = nL) (hm : ∀ (i : Nat) (v : Value), xs[i]? = some v → v ≠ .null → (i, ab_v B rv v) ∈ lv) (hi : i < xs.length) (hn : ab_nl xs i = true) (h : lv_has ls nL ((i, ab_v B rv v) :: lv.filter (fun q => !(q.1 == i) && !(q.1 + 1 == i && q.2.category == 2)))) : ab_rel B rv nL (xs.set i v) ls := by
  refine ⟨by rw [List.length_set]; exact hlen, _, h, fun j w hj hw => ?_⟩
  rw [List.getElem?_set] at hj
  by_cases e : i = j
  · subst e
    rw [if_pos rfl, if_pos hi] at hj
    cases hj
    exact List.mem_cons_self
  · rw [if_neg e] at hj
    refine List.mem_cons_of_mem _ (List.mem_filter.mpr ⟨hm j w hj hw, ?_⟩)
    have h1 : (j == i) = false := by simp; exact Ne.symm e
    simp only [h1, Bool.not_false, Bool.true_and, Bool.not_eq_true', Bool.and_eq_false_iff, beq_eq_false_iff_ne, ne_eq]
    by_cases h2 : j + 1 = i
    · right
      subst h2
      simp only [ab_nl] at hn
      rw [hj] at hn
      cases w <;> simp_all [ab_v, Value.category]
    · left
      exact h2
theorem ab_args_mem : ∀ (as : List Value) (o i : Nat) (v : Value), (ab_sl as)[i]? = some v → v ≠ .null → ∀ (B : Nat) (rv : Nat → Nat), (o + i, ab_v B rv v) ∈ lv_args o (as.map (ab_v B rv))
  | [], _, _, _, h, _, _, _ => by simp [ab_sl] at h
  | a :: as, o, i, v, h, hv, B, rv => by
    have e : ab_sl (a :: as) = (if a.category = 2 then [a, .null] else [a]) ++ ab_sl as := by simp [ab_sl]
    rw [e] at h
    simp only [List.map_cons, lv_args, ab_cat]
    by_cases hc : a.category = 2
    · rw [if_pos hc] at h
      rw [if_pos hc]
      match i, h with
      | 0, h => cases h; exact List.mem_cons_self
      | 1, h => simp at h; exact absurd h.symm hv
      | i + 2, h =>
        have := ab_args_mem as (o + 2) i v (by simpa using h) hv B rv
        rw [show o + (i + 2) = o + 2 + i by omega]
        exact List.mem_cons_of_mem _ this
    · rw [if_neg hc] at h
      rw [if_neg hc]
      match i, h with
      | 0, h => cases h; exact List.mem_cons_self
      | i + 1, h =>
        have := ab_args_mem as (o + 1) i v (by simpa using h) hv B rv
        rw [show o + (i + 1) = o + 1 + i by omega]
        exact List.mem_cons_of_mem _ this
theorem ab_sl_len (B : Nat) (rv : Nat → Nat) (as : List Value) : (lg_sl (as.map (ab_v B rv))).length = (ab_sl as).length := by
  induction as with
  | nil => rfl
  | cons a as ih =>
    have e1 : lg_sl ((a :: as).map (ab_v B rv)) = (if (ab_v B rv a).category = 2 then [.val (ab_v B rv a), .second] else [.val (ab_v B rv a)]) ++ lg_sl (as.map (ab_v B rv)) := by simp [lg_sl]
    have e2 : ab_sl (a :: as) = (if a.category = 2 then [a, .null] else [a]) ++ ab_sl as := by simp [ab_sl]
    rw [e1, e2, List.length_append, List.length_append, ih, ab_cat]
    by_cases hc : a.category = 2 <;> simp [hc]
theorem ab_entry (B : Nat) (rv : Nat → Nat) (as : List Value) {n : Nat} (h : (ab_sl as).length ≤ n) : ab_rel B rv n (ab_ent as n) ((lg_sl (as.map (ab_v B rv)) ++ List.replicate (n - (lg_sl (as.map (ab_v B rv))).length) Slot.unset).toArray) := by
  refine ⟨by simp [ab_ent]; omega, _, lv_entry (as.map (ab_v B rv)) (by rw [ab_sl_len]; exact h), fun i v hi hv => ?_⟩
  unfold ab_ent at hi
  by_cases hl : i < (ab_sl as).length
  · rw [List.getElem?_append_left hl] at hi
    have := ab_args_mem as 0 i v hi hv B rv
    rwa [Nat.zero_add] at this
  · rw [List.getElem?_append_right (by omega), List.getElem?_replicate] at hi
    split at hi
    · cases hi; exact absurd rfl hv
    · cases hi
/-- how many slots the cells have -/
def ab_sz : ab_C → Nat
  | .inl (_, xs) => xs.length
  | .inr (.inl rs) => rs.length
  | .inr (.inr (_, fs)) => fs.length
def ab_szs (hp : ab_H) : Nat := (hp.map ab_sz).sum
theorem ab_szs_set {hp : ab_H} {k : Nat} {q q' : ab_C} (h : hp[k]? = some q) (hs : ab_sz q' = ab_sz q) : ab_szs (hp.set k q') = ab_szs hp := by
  unfold ab_szs
  congr 1
  apply List.ext_getElem?
  intro i
  rw [List.getElem?_map, List.getElem?_map, List.getElem?_set]
  by_cases hi : k = i
  · subst hi
    rw [if_pos rfl, if_pos (ab_lt h), h]
    simp [hs]
  · rw [if_neg hi]
theorem ab_szs_app (hp : ab_H) (q : ab_C) : ab_szs (hp ++ [q]) = ab_szs hp + ab_sz q := by simp [ab_szs]
