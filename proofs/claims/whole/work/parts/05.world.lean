/-! the world: all cells, by the layout, with the numbers of a heap h -/
abbrev lt {α β : Type} (e : α) (f : α → β) : β := f e
def rI (h : Hp) (a : Nat) (f : Nat → Int32) : Hp := (fun b => if b = a then f else h.1 b, h.2)
def rL (h : Hp) (a : Nat) (f : Nat → Int64) : Hp := (h.1, fun b => if b = a then f else h.2 b)
def sI (h : Hp) (a i : Nat) (v : Int32) : Hp := rI h a (upd (h.1 a) i v)
def sL (h : Hp) (a i : Nat) (v : Int64) : Hp := rL h a (vp_updL (h.2 a) i v)
theorem rI_self (h : Hp) (a : Nat) (f : Nat → Int32) : (rI h a f).1 a = f := if_pos rfl
theorem rI_ne (h : Hp) {a b : Nat} (f : Nat → Int32) (n : b ≠ a) : (rI h a f).1 b = h.1 b := if_neg n
theorem rI_2 (h : Hp) (a : Nat) (f : Nat → Int32) : (rI h a f).2 = h.2 := rfl
theorem rL_self (h : Hp) (a : Nat) (f : Nat → Int64) : (rL h a f).2 a = f := if_pos rfl
theorem rL_ne (h : Hp) {a b : Nat} (f : Nat → Int64) (n : b ≠ a) : (rL h a f).2 b = h.2 b := if_neg n
theorem rL_1 (h : Hp) (a : Nat) (f : Nat → Int64) : (rL h a f).1 = h.1 := rfl
def fv (ad : Nat → Nat) (h : Hp) (k s t : Nat) : Value := match t with
  | 0 => .int (h.1 k s)
  | 1 => .long (h.2 k s)
  | n + 2 => .ref (ad (k + n))
def flds (ad : Nat → Nat) (h : Hp) (k : Nat) (L : List Nat) : List Value := L.mapIdx (fun s t => fv ad h k s t)
def cellE (ad : Nat → Nat) (cA : Nat → ClassId) (h : Hp) (k : Nat) : va_E :=
  if kd k < 10 then .inr (kd k, flds ad h k (fkL.getD (kd k) []))
  else if kd k = 10 then .inl (cA 0, ln k, .inl (h.1 k))
  else if kd k = 11 then .inl (cA 1, ln k, .inr (.inl (h.2 k)))
  else if kd k = 12 then .inl (cA 2, ln k, .inl (h.1 k))
  else .inl (cA 3, ln k, .inr (.inr (.inr (.inr (fun i => if i < 4 then some (ad (k + 1 + i)) else none)))))
def Wd (ad : Nat → Nat) (cA : Nat → ClassId) (h : Hp) : va_W := (List.range nC).map (fun k => (ad k, cellE ad cA h k))
abbrev tysW (cA : Nat → ClassId) : List (ClassId × FieldType) := [(cA 0, .int), (cA 1, .long), (cA 2, .boolean), (cA 3, .array .int)]
def Ar (ad : Nat → Nat) : Nat → Prop := fun q => ∃ k, k < nC ∧ q = ad k
def Inj (ad : Nat → Nat) : Prop := ∀ i j, i < nC → j < nC → ad i = ad j → i = j
theorem Wd_at {ad : Nat → Nat} {cA : Nat → ClassId} {h : Hp} {k : Nat} (hk : k < nC) : (Wd ad cA h)[k]? = some (ad k, cellE ad cA h k) := by
  unfold Wd
  rw [List.getElem?_map, List.getElem?_range hk]
  rfl
theorem Wd_out {ad : Nat → Nat} {cA : Nat → ClassId} {h : Hp} {k : Nat} (hk : ¬ k < nC) : (Wd ad cA h)[k]? = none := by
  unfold Wd
  rw [List.getElem?_map, List.getElem?_eq_none (by rw [List.length_range]; omega)]
  rfl
theorem Wd_D {ad : Nat → Nat} {cA : Nat → ClassId} {h : Hp} (inj : Inj ad) : va_D (Ar ad) (Wd ad cA h) := by
  have key : ∀ (i : Nat) (q : Nat × va_E), (Wd ad cA h)[i]? = some q → i < nC ∧ q.1 = ad i := by
    intro i q hq
    by_cases hi : i < nC
    · rw [Wd_at hi] at hq
      cases hq
      exact ⟨hi, rfl⟩
    · rw [Wd_out hi] at hq
      cases hq
  refine ⟨fun i j p q hp hq e => ?_, fun k q hq => ?_⟩
  · obtain ⟨h1, h2⟩ := key i p hp
    obtain ⟨h3, h4⟩ := key j q hq
    exact inj i j h1 h3 (by rw [← h2, ← h4]; exact e)
  · obtain ⟨h1, h2⟩ := key k q hq
    exact ⟨k, h1, h2⟩
theorem cellE_congr {ad : Nat → Nat} {cA : Nat → ClassId} {h h' : Hp} {j : Nat} (h1 : h'.1 j = h.1 j) (h2 : h'.2 j = h.2 j) : cellE ad cA h' j = cellE ad cA h j := by
  unfold cellE flds
  have e : ∀ s t, fv ad h' j s t = fv ad h j s t := fun s t => by
    unfold fv
    split
    · rw [h1]
    · rw [h2]
    · rfl
  simp only [e, h1, h2]
theorem Wd_set {ad : Nat → Nat} {cA : Nat → ClassId} {h h' : Hp} {k : Nat} (hk : k < nC) (h1 : ∀ j, j ≠ k → h'.1 j = h.1 j) (h2 : ∀ j, j ≠ k → h'.2 j = h.2 j) : (Wd ad cA h).set k (ad k, cellE ad cA h' k) = Wd ad cA h' := by
  apply List.ext_getElem?
  intro i
  by_cases hi : i < nC
  · by_cases e : k = i
    · subst e
      rw [List.getElem?_set_self (by unfold Wd; simpa using hk), Wd_at hk]
    · rw [List.getElem?_set_ne e, Wd_at hi, Wd_at hi, cellE_congr (h1 i (Ne.symm e)) (h2 i (Ne.symm e))]
  · rw [Wd_out hi, List.getElem?_eq_none]
    unfold Wd
    simp only [List.length_set, List.length_map, List.length_range]
    omega
theorem Wd_sI {ad : Nat → Nat} {cA : Nat → ClassId} {h : Hp} {k : Nat} {f : Nat → Int32} (hk : k < nC) : (Wd ad cA h).set k (ad k, cellE ad cA (rI h k f) k) = Wd ad cA (rI h k f) := Wd_set hk (fun _ e => rI_ne h f e) (fun _ _ => rfl)
theorem Wd_sL {ad : Nat → Nat} {cA : Nat → ClassId} {h : Hp} {k : Nat} {f : Nat → Int64} (hk : k < nC) : (Wd ad cA h).set k (ad k, cellE ad cA (rL h k f) k) = Wd ad cA (rL h k f) := Wd_set hk (fun _ _ => rfl) (fun _ e => rL_ne h f e)
theorem cell_obj {ad : Nat → Nat} {cA : Nat → ClassId} {h : Hp} {k ci : Nat} (e : kd k = ci) (hc : ci < 10) : cellE ad cA h k = .inr (ci, flds ad h k (fkL.getD ci [])) := by
  unfold cellE
  rw [if_pos (by rw [e]; exact hc), e]
theorem cell_I {ad : Nat → Nat} {cA : Nat → ClassId} {h : Hp} {k n : Nat} (e : kd k = 10) (hn : ln k = n) : cellE ad cA h k = .inl (cA 0, n, .inl (h.1 k)) := by
  unfold cellE
  rw [if_neg (by rw [e]; decide), if_pos e, hn]
theorem cell_L {ad : Nat → Nat} {cA : Nat → ClassId} {h : Hp} {k n : Nat} (e : kd k = 11) (hn : ln k = n) : cellE ad cA h k = .inl (cA 1, n, .inr (.inl (h.2 k))) := by
  unfold cellE
  rw [if_neg (by rw [e]; decide), if_neg (by rw [e]; decide), if_pos e, hn]
theorem cell_Z {ad : Nat → Nat} {cA : Nat → ClassId} {h : Hp} {k n : Nat} (e : kd k = 12) (hn : ln k = n) : cellE ad cA h k = .inl (cA 2, n, .inl (h.1 k)) := by
  unfold cellE
  rw [if_neg (by rw [e]; decide), if_neg (by rw [e]; decide), if_neg (by rw [e]; decide), if_pos e, hn]
theorem cell_Q {ad : Nat → Nat} {cA : Nat → ClassId} {h : Hp} {k : Nat} (e : kd k = 13) : cellE ad cA h k = .inl (cA 3, 4, .inr (.inr (.inr (.inr (fun i => if i < 4 then some (ad (k + 1 + i)) else none))))) := by
  unfold cellE
  rw [if_neg (by rw [e]; decide), if_neg (by rw [e]; decide), if_neg (by rw [e]; decide), if_neg (by rw [e]; decide), ll_13 e]
theorem flds_at {ad : Nat → Nat} {h : Hp} {k s t : Nat} {L : List Nat} (e : L[s]? = some t) : (flds ad h k L)[s]? = some (fv ad h k s t) := by
  unfold flds
  rw [List.getElem?_mapIdx, e]
  rfl
theorem flds_len {ad : Nat → Nat} {h : Hp} {k : Nat} {L : List Nat} : (flds ad h k L).length = L.length := by
  unfold flds
  exact List.length_mapIdx
theorem flds_sI {ad : Nat → Nat} {h : Hp} {k s : Nat} {v : Int32} {L : List Nat} (e : L[s]? = some 0) : (flds ad h k L).set s (.int v) = flds ad (sI h k s v) k L := by
  apply List.ext_getElem?
  intro i
  have hs : s < L.length := (List.getElem?_eq_some_iff.mp e).1
  by_cases hi : s = i
  · subst hi
    rw [List.getElem?_set_self (by rw [flds_len]; exact hs), flds_at e]
    show some (Value.int v) = some (Value.int ((sI h k s v).1 k s))
    unfold sI
    rw [rI_self]
    unfold upd
    rw [if_pos rfl]
  · rw [List.getElem?_set_ne hi]
    unfold flds
    rw [List.getElem?_mapIdx, List.getElem?_mapIdx]
    cases L[i]? with
    | none => rfl
    | some t =>
      show some (fv ad h k i t) = some (fv ad (sI h k s v) k i t)
      congr 1
      unfold fv sI
      split
      · rw [rI_self]
        unfold upd
        rw [if_neg (Ne.symm hi)]
      · rw [rI_2]
      · rfl
theorem flds_sL {ad : Nat → Nat} {h : Hp} {k s : Nat} {v : Int64} {L : List Nat} (e : L[s]? = some 1) : (flds ad h k L).set s (.long v) = flds ad (sL h k s v) k L := by
  apply List.ext_getElem?
  intro i
  have hs : s < L.length := (List.getElem?_eq_some_iff.mp e).1
  by_cases hi : s = i
  · subst hi
    rw [List.getElem?_set_self (by rw [flds_len]; exact hs), flds_at e]
    show some (Value.long v) = some (Value.long ((sL h k s v).2 k s))
    unfold sL
    rw [rL_self]
    unfold vp_updL
    rw [if_pos rfl]
  · rw [List.getElem?_set_ne hi]
    unfold flds
    rw [List.getElem?_mapIdx, List.getElem?_mapIdx]
    cases L[i]? with
    | none => rfl
    | some t =>
      show some (fv ad h k i t) = some (fv ad (sL h k s v) k i t)
      congr 1
      unfold fv sL
      split
      · rw [rL_1]
      · rw [rL_self]
        unfold vp_updL
        rw [if_neg (Ne.symm hi)]
      · rfl
/-! words -/
def isNw : Cond → Bool
  | .methodLinkNest .. => true
  | _ => false
def GT : List Cond := lw_tbl.filter goodWord
def NW : List Cond := lw_tbl.filter isNw
theorem GT_in {w : Cond} (h : w ∈ lw_tbl) (g : goodWord w = true) : w ∈ GT := List.mem_filter.mpr ⟨h, g⟩
theorem GT_good {T : List Cond} (hT : ∀ w ∈ GT, w ∈ T) : GoodIn T GT := fun w h => ⟨hT w h, good_of_word (List.mem_filter.mp h).2⟩
theorem GT_code {T : List Cond} (hT : ∀ w ∈ GT, w ∈ T) {y : MethodName} {cc : ByteArray} {n : Nat} {r : Option FieldType} (h : Cond.code y cc n r ∈ GT) : GoodIn T (Cond.code y cc n r :: GT) := fun w hw => by
  rcases List.mem_cons.mp hw with e | e
  · rw [e]
    exact GT_good hT _ h
  · exact GT_good hT _ e
theorem NW_moved {s U : State} (hW : s.WarmedH U.vm) (h : ∀ w ∈ NW, va_Nw w s) : ∀ w ∈ NW, va_Nw w U := fun w hw => by
  have h1 := h w hw
  have h2 := (List.mem_filter.mp hw).2
  cases w <;> first | (cases h2; done) | exact va_Nw.warmM hW h1
theorem NW_same {s U : State} (e : s.vm = U.vm) (h : ∀ w ∈ NW, va_Nw w s) : ∀ w ∈ NW, va_Nw w U := fun w hw => by
  have h1 := h w hw
  have h2 := (List.mem_filter.mp hw).2
  cases w <;> first | (cases h2; done) | exact va_Nw.same rfl e h1
