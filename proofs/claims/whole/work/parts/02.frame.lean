/-! The frame: the evaluator's locals and stack beside the machine's. -/
theorem ux_cat (b n0 : Nat) (v : Value) : (ux_tr b n0 v).category = v.category := by cases v <;> rfl
def ux_pr (b n0 : Nat) : Nat → List Value → List (Nat × Value)
  | _, [] => []
  | i, v :: r => if v = .null then ux_pr b n0 (i + 1) r else (i, ux_tr b n0 v) :: ux_pr b n0 (i + 1) r
theorem ux_pr_in {b n0 : Nat} : ∀ (ls : List Value) (i : Nat) (q : Nat × Value), q ∈ ux_pr b n0 i ls ↔ ∃ (j : Nat) (v : Value), ls[j]? = some v ∧ v ≠ .null ∧ q = (i + j, ux_tr b n0 v) := by
  intro ls
  induction ls with
  | nil => intro i q; simp [ux_pr]
  | cons w r ih =>
    intro i q
    unfold ux_pr
    constructor
    · intro h
      split at h
      · obtain ⟨j, v, h1, h2, h3⟩ := (ih (i + 1) q).mp h
        exact ⟨j + 1, v, by simpa using h1, h2, by rw [h3, show i + 1 + j = i + (j + 1) by omega]⟩
      · rename_i hw
        rcases List.mem_cons.mp h with h | h
        · exact ⟨0, w, rfl, hw, h⟩
        · obtain ⟨j, v, h1, h2, h3⟩ := (ih (i + 1) q).mp h
          exact ⟨j + 1, v, by simpa using h1, h2, by rw [h3, show i + 1 + j = i + (j + 1) by omega]⟩
    · rintro ⟨j, v, h1, h2, rfl⟩
      cases j with
      | zero =>
        have h3 : w = v := by simpa using h1
        subst h3
        rw [if_neg h2]
        exact List.mem_cons_self
      | succ j =>
        have h3 : (i + (j + 1), ux_tr b n0 v) ∈ ux_pr b n0 (i + 1) r := (ih (i + 1) _).mpr ⟨j, v, by simpa using h1, h2, by rw [show i + 1 + j = i + (j + 1) by omega]⟩
        split
        · exact h3
        · exact List.mem_cons_of_mem _ h3
def ux_L (b n0 nL : Nat) (ls : List Value) (lsR : Array Slot) : Prop := ls.length = nL ∧ (∀ v ∈ ls, v.category = 1) ∧ lv_has lsR nL (ux_pr b n0 0 ls)
theorem ux_L.val {b n0 nL : Nat} {ls : List Value} {lsR : Array Slot} (h : ux_L b n0 nL ls lsR) {i : Nat} {v : Value} (hi : ls[i]? = some v) (hv : v ≠ .null) : lsR[i]? = some (.val (ux_tr b n0 v)) := by
  have h1 := h.2.2.2.2 (0 + i, ux_tr b n0 v) ((ux_pr_in ls 0 _).mpr ⟨i, v, hi, hv, rfl⟩)
  simpa using h1
theorem ux_L.lt {b n0 nL : Nat} {ls : List Value} {lsR : Array Slot} (h : ux_L b n0 nL ls lsR) {i : Nat} (hi : i < ls.length) : i < nL := by rw [← h.1]; exact hi
theorem ux_L.put {b n0 nL : Nat} {ls : List Value} {lsR lsR' : Array Slot} (h : ux_L b n0 nL ls lsR) {i : Nat} {v w : Value} (hc : v.category = 1) (hvw : v ≠ .null → w = ux_tr b n0 v)
    (h' : lv_has lsR' nL ((i, w) :: (ux_pr b n0 0 ls).filter (fun q => !(q.1 == i) && !(q.1 + 1 == i && q.2.category == 2)))) : ux_L b n0 nL (ls.set i v) lsR' := by
  refine ⟨by rw [List.length_set]; exact h.1, fun x hx => ?_, h'.1, h'.2.1, fun q hq => ?_⟩
  · rcases List.mem_or_eq_of_mem_set hx with h1 | h1
    · exact h.2.1 x h1
    · rw [h1]; exact hc
  · obtain ⟨j, x, h1, h2, rfl⟩ := (ux_pr_in _ 0 q).mp hq
    by_cases hj : j = i
    · subst hj
      have hlt : j < ls.length := by
        have := (List.getElem?_eq_some_iff.mp h1).1
        simpa using this
      rw [List.getElem?_set_self hlt] at h1
      cases h1
      have h3 := h'.2.2 (j, w) List.mem_cons_self
      rw [hvw h2] at h3
      simpa using h3
    · rw [List.getElem?_set_ne (Ne.symm hj)] at h1
      refine h'.2.2 (0 + j, ux_tr b n0 x) (List.mem_cons_of_mem _ (List.mem_filter.mpr ⟨(ux_pr_in ls 0 _).mpr ⟨j, x, h1, h2, rfl⟩, ?_⟩))
      have hc2 : x.category = 1 := h.2.1 x (List.mem_of_getElem? h1)
      simp [ux_cat, hc2, hj]
theorem ux_args_in (vs : List Value) (hc : ∀ v ∈ vs, v.category = 1) : ∀ (i j : Nat) (v : Value), vs[j]? = some v → (i + j, v) ∈ lv_args i vs := by
  induction vs with
  | nil => intro i j v h; simp at h
  | cons w r ih =>
    intro i j v h
    have hw : ¬ w.category = 2 := by rw [hc w List.mem_cons_self]; decide
    unfold lv_args
    rw [if_neg hw]
    cases j with
    | zero =>
      have h3 : w = v := by simpa using h
      subst h3
      exact List.mem_cons_self
    | succ j =>
      have := ih (fun x hx => hc x (List.mem_cons_of_mem _ hx)) (i + 1) j v (by simpa using h)
      rw [show i + 1 + j = i + (j + 1) by omega] at this
      exact List.mem_cons_of_mem _ this
theorem ux_sl (vs : List Value) (hc : ∀ v ∈ vs, v.category = 1) : (lg_sl vs).length = vs.length := by
  induction vs with
  | nil => rfl
  | cons w r ih =>
    have hw : ¬ w.category = 2 := by rw [hc w List.mem_cons_self]; decide
    have e : lg_sl (w :: r) = [.val w] ++ lg_sl r := by simp [lg_sl, hw]
    rw [e, List.length_append, ih (fun x hx => hc x (List.mem_cons_of_mem _ hx))]
    simp; omega
theorem ux_entry (b n0 : Nat) (m : MethodId) (vs : List Value) (n : Nat) (hc : ∀ v ∈ vs, v.category = 1) (hn : vs.length ≤ n) : ∃ lsR, ux_L b n0 n (vs ++ List.replicate (n - vs.length) .null) lsR ∧ entryFrame m (vs.map (ux_tr b n0)).toArray n = F0 m 0 lsR [] := by
  have hc' : ∀ v ∈ vs.map (ux_tr b n0), v.category = 1 := by
    intro v hv
    obtain ⟨w, hw, rfl⟩ := List.mem_map.mp hv
    rw [ux_cat]; exact hc w hw
  have hl : (lg_sl (vs.map (ux_tr b n0))).length ≤ n := by rw [ux_sl _ hc', List.length_map]; exact hn
  have h := lv_entry (vs.map (ux_tr b n0)) hl
  refine ⟨_, ⟨by simp; omega, fun v hv => ?_, h.1, h.2.1, fun q hq => ?_⟩, lg_entry_eq m _ n⟩
  · rcases List.mem_append.mp hv with h1 | h1
    · exact hc v h1
    · rw [(List.mem_replicate.mp h1).2]; rfl
  · obtain ⟨j, v, h1, h2, rfl⟩ := (ux_pr_in _ 0 q).mp hq
    have hj : vs[j]? = some v := by
      by_cases hlt : j < vs.length
      · rwa [List.getElem?_append_left hlt] at h1
      · rw [List.getElem?_append_right (by omega)] at h1
        exact absurd (List.mem_replicate.mp (List.mem_of_getElem? h1)).2 h2
    have := h.2.2 (0 + j, ux_tr b n0 v) (ux_args_in _ hc' 0 j _ (by rw [List.getElem?_map, hj]; rfl))
    exact this
/-- the machine at the evaluator's frame -/
def ux_V (p : Program) (l : Launch) (e : Env) (R : Room) (s : State) (m : MethodId) (args : Array Value) (below : List Frame) (meth : Method) (c : Code) (H : Heap) (locs : List Loc) (cells slots : Nat) (Q : State → Prop) (b n0 nL pc : Nat) (ls st : List Value) : Prop :=
  ∀ lsR : Array Slot, ux_L b n0 nL ls lsR → W p l e R s m args below meth c H locs cells slots Q (F0 m pc lsR (st.map (ux_tr b n0)))
section UXS
variable {p : Program} {l : Launch} {e : Env} {R : Room} {s : State} {m : MethodId} {args : Array Value} {below : List Frame} {meth : Method} {c : Code} {H : Heap} {locs : List Loc} {cells slots : Nat} {Q : State → Prop} {cc : ByteArray} {b n0 nL pc : Nat} {ls st ls' st' : List Value} {pc' : Nat}
theorem ux_iiW {f : Int32 → Int32 → Int32} (row : ∀ (x y : Int32) (lsR : Array Slot) (rest : List Value), W p l e R s m args below meth c H locs cells slots Q (F0 m (pc + 1) lsR (.int (f x y) :: rest)) → W p l e R s m args below meth c H locs cells slots Q (F0 m pc lsR (.int y :: .int x :: rest)))
    (h : ux_ii f pc ls st = some (pc', ls', st')) (k : ux_V p l e R s m args below meth c H locs cells slots Q b n0 nL pc' ls' st') : ux_V p l e R s m args below meth c H locs cells slots Q b n0 nL pc ls st := by
  unfold ux_ii at h
  split at h
  · cases h
    intro lsR hL
    exact row _ _ _ _ (k lsR hL)
  · cases h
theorem ux_brW {q : Bool} {off : Int} {lsR : Array Slot} {r : List Value} (hL : ux_L b n0 nL ls lsR)
    (h : ux_br q off pc ls r = some (pc', ls', st')) (k : ux_V p l e R s m args below meth c H locs cells slots Q b n0 nL pc' ls' st') :
    ∃ tgt : Nat, (pc : Int) + off = (tgt : Int) ∧ (q = true → W p l e R s m args below meth c H locs cells slots Q (F0 m tgt lsR (r.map (ux_tr b n0)))) ∧ (q = false → W p l e R s m args below meth c H locs cells slots Q (F0 m (pc + 3) lsR (r.map (ux_tr b n0)))) := by
  unfold ux_br at h
  split at h
  · rename_i h0
    cases h
    have hk := k lsR hL
    refine ⟨((pc : Int) + off).toNat, (Int.toNat_of_nonneg h0).symm, fun hq => ?_, fun hq => ?_⟩
    · rw [if_pos hq] at hk; exact hk
    · rw [if_neg (by rw [hq]; decide)] at hk; exact hk
  · cases h
theorem ux_i1W {q : Int32 → Bool} {off : Int} (row : ∀ (x : Int32) (lsR : Array Slot) (rest : List Value) (tgt : Nat), (pc : Int) + off = (tgt : Int) → (q x = true → W p l e R s m args below meth c H locs cells slots Q (F0 m tgt lsR rest)) → (q x = false → W p l e R s m args below meth c H locs cells slots Q (F0 m (pc + 3) lsR rest)) → W p l e R s m args below meth c H locs cells slots Q (F0 m pc lsR (.int x :: rest)))
    (h : ux_i1 q off pc ls st = some (pc', ls', st')) (k : ux_V p l e R s m args below meth c H locs cells slots Q b n0 nL pc' ls' st') : ux_V p l e R s m args below meth c H locs cells slots Q b n0 nL pc ls st := by
  unfold ux_i1 at h
  split at h
  · intro lsR hL
    obtain ⟨tgt, h1, h2, h3⟩ := ux_brW hL h k
    exact row _ _ _ tgt h1 h2 h3
  · cases h
theorem ux_i2W {q : Int32 → Int32 → Bool} {off : Int} (row : ∀ (x y : Int32) (lsR : Array Slot) (rest : List Value) (tgt : Nat), (pc : Int) + off = (tgt : Int) → (q x y = true → W p l e R s m args below meth c H locs cells slots Q (F0 m tgt lsR rest)) → (q x y = false → W p l e R s m args below meth c H locs cells slots Q (F0 m (pc + 3) lsR rest)) → W p l e R s m args below meth c H locs cells slots Q (F0 m pc lsR (.int y :: .int x :: rest)))
    (h : ux_i2 q off pc ls st = some (pc', ls', st')) (k : ux_V p l e R s m args below meth c H locs cells slots Q b n0 nL pc' ls' st') : ux_V p l e R s m args below meth c H locs cells slots Q b n0 nL pc ls st := by
  unfold ux_i2 at h
  split at h
  · intro lsR hL
    obtain ⟨tgt, h1, h2, h3⟩ := ux_brW hL h k
    exact row _ _ _ _ tgt h1 h2 h3
  · cases h
theorem ux_goW {off : Int} {r : List Value} {lsR : Array Slot} (hL : ux_L b n0 nL ls lsR) (h : ux_go off pc ls r = some (pc', ls', st')) (k : ux_V p l e R s m args below meth c H locs cells slots Q b n0 nL pc' ls' st') :
    ∃ tgt : Nat, (pc : Int) + off = (tgt : Int) ∧ W p l e R s m args below meth c H locs cells slots Q (F0 m tgt lsR (r.map (ux_tr b n0))) := by
  unfold ux_go at h
  split at h
  · rename_i h0
    cases h
    exact ⟨_, (Int.toNat_of_nonneg h0).symm, k lsR hL⟩
  · cases h
theorem ux_ldiW {len i : Nat} (row : ∀ (x : Int32) (lsR : Array Slot) (rest : List Value), lsR[i]? = some (.val (.int x)) → W p l e R s m args below meth c H locs cells slots Q (F0 m (pc + len) lsR (.int x :: rest)) → W p l e R s m args below meth c H locs cells slots Q (F0 m pc lsR rest))
    (h : ux_ldi len i pc ls st = some (pc', ls', st')) (k : ux_V p l e R s m args below meth c H locs cells slots Q b n0 nL pc' ls' st') : ux_V p l e R s m args below meth c H locs cells slots Q b n0 nL pc ls st := by
  unfold ux_ldi at h
  split at h
  · rename_i x hx
    cases h
    intro lsR hL
    exact row x lsR _ (hL.val hx (fun q => by cases q)) (k lsR hL)
  · cases h
theorem ux_ldaW {len i : Nat} (row : ∀ (x : Nat) (lsR : Array Slot) (rest : List Value), lsR[i]? = some (.val (.ref x)) → W p l e R s m args below meth c H locs cells slots Q (F0 m (pc + len) lsR (.ref x :: rest)) → W p l e R s m args below meth c H locs cells slots Q (F0 m pc lsR rest))
    (h : ux_lda len i pc ls st = some (pc', ls', st')) (k : ux_V p l e R s m args below meth c H locs cells slots Q b n0 nL pc' ls' st') : ux_V p l e R s m args below meth c H locs cells slots Q b n0 nL pc ls st := by
  unfold ux_lda at h
  split at h
  · rename_i x hx
    cases h
    intro lsR hL
    exact row (ux_ad b n0 x) lsR _ (hL.val hx (fun q => by cases q)) (k lsR hL)
  · cases h
theorem ux_stiW {len i : Nat} (row : ∀ (x : Int32) (lsR : Array Slot) (rest : List Value) (lv : List (Nat × Value)), lv_has lsR nL lv → i < nL → (∀ ls' : Array Slot, lv_has ls' nL ((i, Value.int x) :: lv.filter (fun q => !(q.1 == i) && !(q.1 + 1 == i && q.2.category == 2))) → W p l e R s m args below meth c H locs cells slots Q (F0 m (pc + len) ls' rest)) → W p l e R s m args below meth c H locs cells slots Q (F0 m pc lsR (.int x :: rest)))
    (h : ux_sti len i pc ls st = some (pc', ls', st')) (k : ux_V p l e R s m args below meth c H locs cells slots Q b n0 nL pc' ls' st') : ux_V p l e R s m args below meth c H locs cells slots Q b n0 nL pc ls st := by
  unfold ux_sti at h
  split at h
  · split at h
    · rename_i hi
      cases h
      intro lsR hL
      exact row _ lsR _ _ hL.2.2 (hL.lt hi) fun lsR' h' => k lsR' (hL.put rfl (fun _ => rfl) h')
    · cases h
  · cases h
theorem ux_staW {len i : Nat} (row : ∀ (x : Nat) (lsR : Array Slot) (rest : List Value) (lv : List (Nat × Value)), lv_has lsR nL lv → i < nL → (∀ ls' : Array Slot, lv_has ls' nL ((i, Value.ref x) :: lv.filter (fun q => !(q.1 == i) && !(q.1 + 1 == i && q.2.category == 2))) → W p l e R s m args below meth c H locs cells slots Q (F0 m (pc + len) ls' rest)) → W p l e R s m args below meth c H locs cells slots Q (F0 m pc lsR (.ref x :: rest)))
    (h : ux_sta len i pc ls st = some (pc', ls', st')) (k : ux_V p l e R s m args below meth c H locs cells slots Q b n0 nL pc' ls' st') : ux_V p l e R s m args below meth c H locs cells slots Q b n0 nL pc ls st := by
  unfold ux_sta at h
  split at h
  · split at h
    · rename_i hi
      cases h
      intro lsR hL
      exact row _ lsR _ _ hL.2.2 (hL.lt hi) fun lsR' h' => k lsR' (hL.put rfl (fun _ => rfl) h')
    · cases h
  · cases h
set_option maxHeartbeats 4000000 in
theorem ux_simW (hx : p.tables.exec = Jvm.exec) (hb : c.code = cc) {ins : Instr} {len : Nat} (hd : decode cc pc = .ok (ins, len)) (hl : ux_lok ins len = true) (h : ux_sim ins pc ls st = some (pc', ls', st'))
    (k : ux_V p l e R s m args below meth c H locs cells slots Q b n0 nL pc' ls' st') : ux_V p l e R s m args below meth c H locs cells slots Q b n0 nL pc ls st := by
  unfold ux_sim at h
  split at h
  case h_1 => obtain rfl : len = 1 := by simpa [ux_lok] using hl
              cases h; intro lsR hL; exact lv_iconst hx hb hd rfl (k lsR hL)
  case h_2 => obtain rfl : len = 2 := by simpa [ux_lok] using hl
              cases h; intro lsR hL; exact lv_bipush hx hb hd rfl (k lsR hL)
  case h_3 => obtain rfl : len = 3 := by simpa [ux_lok] using hl
              cases h; intro lsR hL; exact lv_sipush hx hb hd rfl (k lsR hL)
  case h_4 => obtain rfl : len = 1 := by simpa [ux_lok] using hl
              cases h; intro lsR hL; exact lv_lconst hx hb hd rfl (k lsR hL)
  case h_5 => obtain rfl : len = 2 := by simpa [ux_lok] using hl
              exact ux_ldiW (fun x lsR rest h1 h2 => lv_iload hx hb hd h1 h2) h k
  case h_6 => obtain rfl : len = 1 := by simpa [ux_lok] using hl
              exact ux_ldiW (fun x lsR rest h1 h2 => lv_iload_n hx hb hd rfl h1 h2) h k
  case h_7 => obtain rfl : len = 2 := by simpa [ux_lok] using hl
              exact ux_ldaW (fun x lsR rest h1 h2 => lv_aload hx hb hd h1 h2) h k
  case h_8 => obtain rfl : len = 1 := by simpa [ux_lok] using hl
              exact ux_ldaW (fun x lsR rest h1 h2 => lv_aload_n hx hb hd rfl h1 h2) h k
  case h_9 => obtain rfl : len = 2 := by simpa [ux_lok] using hl
              exact ux_stiW (fun x lsR rest lv h1 h2 h3 => lv_istore hx hb hd h1 h2 rfl h3) h k
  case h_10 => obtain rfl : len = 1 := by simpa [ux_lok] using hl
               exact ux_stiW (fun x lsR rest lv h1 h2 h3 => lv_istore_n hx hb hd rfl h1 h2 rfl h3) h k
  case h_11 => obtain rfl : len = 2 := by simpa [ux_lok] using hl
               exact ux_staW (fun x lsR rest lv h1 h2 h3 => lv_astore hx hb hd h1 h2 rfl h3) h k
  case h_12 => obtain rfl : len = 1 := by simpa [ux_lok] using hl
               exact ux_staW (fun x lsR rest lv h1 h2 h3 => lv_astore_n hx hb hd rfl h1 h2 rfl h3) h k
  case h_13 => obtain rfl : len = 3 := by simpa [ux_lok] using hl
               unfold ux_inc at h
               split at h
               · rename_i i n _ x hx2
                 cases h
                 intro lsR hL
                 have hi : i < ls.length := (List.getElem?_eq_some_iff.mp hx2).1
                 obtain ⟨kk, hkk⟩ := List.getElem?_of_mem ((ux_pr_in (b := b) (n0 := n0) ls 0 (0 + i, .int x)).mpr ⟨i, .int x, hx2, (fun q => by cases q), rfl⟩)
                 rw [Nat.zero_add] at hkk
                 exact lv_iinc hx hb hd hL.2.2 hkk rfl (hL.lt hi) rfl fun lsR' h' => k lsR' (hL.put rfl (fun _ => rfl) h')
               · cases h
  case h_14 => obtain rfl : len = 1 := by simpa [ux_lok] using hl
               exact ux_iiW (fun x y lsR rest h1 => lv_iadd hx hb hd h1) h k
  case h_15 => obtain rfl : len = 1 := by simpa [ux_lok] using hl
               exact ux_iiW (fun x y lsR rest h1 => lv_isub hx hb hd h1) h k
  case h_16 => obtain rfl : len = 1 := by simpa [ux_lok] using hl
               exact ux_iiW (fun x y lsR rest h1 => lv_imul hx hb hd h1) h k
  case h_17 => obtain rfl : len = 1 := by simpa [ux_lok] using hl
               exact ux_iiW (fun x y lsR rest h1 => lv_iand hx hb hd h1) h k
  case h_18 => obtain rfl : len = 1 := by simpa [ux_lok] using hl
               exact ux_iiW (fun x y lsR rest h1 => lv_ior hx hb hd h1) h k
  case h_19 => obtain rfl : len = 1 := by simpa [ux_lok] using hl
               exact ux_iiW (fun x y lsR rest h1 => lv_ishl hx hb hd h1) h k
  case h_20 => obtain rfl : len = 1 := by simpa [ux_lok] using hl
               exact ux_iiW (fun x y lsR rest h1 => lv_ishr hx hb hd h1) h k
  case h_21 => obtain rfl : len = 1 := by simpa [ux_lok] using hl
               unfold ux_i2l at h
               split at h
               · cases h; intro lsR hL; exact lv_i2l hx hb hd rfl (k lsR hL)
               · cases h
  case h_22 => obtain rfl : len = 1 := by simpa [ux_lok] using hl
               unfold ux_lcmp at h
               split at h
               · cases h; intro lsR hL; exact W.lcmp hx hb hd (k lsR hL)
               · cases h
  case h_23 => obtain rfl : len = 1 := by simpa [ux_lok] using hl
               unfold ux_dup at h
               split at h
               · split at h
                 · rename_i hv
                   cases h; intro lsR hL; exact lv_dup hx hb hd (by rw [ux_cat]; exact hv) (k lsR hL)
                 · cases h
               · cases h
  case h_24 => obtain rfl : len = 1 := by simpa [ux_lok] using hl
               unfold ux_dup2 at h
               split at h
               · split at h
                 · rename_i hv
                   cases h; intro lsR hL; exact lv_dup2_11 hx hb hd (by rw [ux_cat]; exact hv.1) (by rw [ux_cat]; exact hv.2) (k lsR hL)
                 · cases h
               · cases h
  case h_25 => obtain rfl : len = 1 := by simpa [ux_lok] using hl
               unfold ux_dupx1 at h
               split at h
               · split at h
                 · rename_i hv
                   cases h; intro lsR hL; exact lv_dup_x1 hx hb hd (by rw [ux_cat]; exact hv.1) (by rw [ux_cat]; exact hv.2) (k lsR hL)
                 · cases h
               · cases h
  case h_26 => obtain rfl : len = 1 := by simpa [ux_lok] using hl
               unfold ux_pop at h
               split at h
               · split at h
                 · rename_i hv
                   cases h; intro lsR hL; exact lv_pop hx hb hd (by rw [ux_cat]; exact hv) (k lsR hL)
                 · cases h
               · cases h
  case h_27 => obtain rfl : len = 3 := by simpa [ux_lok] using hl
               exact ux_i1W (fun x lsR rest tgt ht kt kf => lv_if_eq hx hb hd ht (fun z => kt (decide_eq_true z)) (fun z => kf (decide_eq_false z))) h k
  case h_28 => obtain rfl : len = 3 := by simpa [ux_lok] using hl
               exact ux_i1W (fun x lsR rest tgt ht kt kf => lv_if_ne hx hb hd ht (fun z => kt (decide_eq_true z)) (fun z => kf (decide_eq_false (fun q => q z)))) h k
  case h_29 => obtain rfl : len = 3 := by simpa [ux_lok] using hl
               exact ux_i1W (fun x lsR rest tgt ht kt kf => lv_if_lt hx hb hd ht (fun z => kt (decide_eq_true z)) (fun z => kf (decide_eq_false z))) h k
  case h_30 => obtain rfl : len = 3 := by simpa [ux_lok] using hl
               exact ux_i1W (fun x lsR rest tgt ht kt kf => lv_if_ge hx hb hd ht (fun z => kt (decide_eq_true z)) (fun z => kf (decide_eq_false z))) h k
  case h_31 => obtain rfl : len = 3 := by simpa [ux_lok] using hl
               exact ux_i1W (fun x lsR rest tgt ht kt kf => lv_if_gt hx hb hd ht (fun z => kt (decide_eq_true z)) (fun z => kf (decide_eq_false z))) h k
  case h_32 => obtain rfl : len = 3 := by simpa [ux_lok] using hl
               exact ux_i1W (fun x lsR rest tgt ht kt kf => lv_if_le hx hb hd ht (fun z => kt (decide_eq_true z)) (fun z => kf (decide_eq_false z))) h k
  case h_33 => obtain rfl : len = 3 := by simpa [ux_lok] using hl
               exact ux_i2W (fun x y lsR rest tgt ht kt kf => lv_icmp_eq hx hb hd ht (fun z => kt (decide_eq_true z)) (fun z => kf (decide_eq_false z))) h k
  case h_34 => obtain rfl : len = 3 := by simpa [ux_lok] using hl
               exact ux_i2W (fun x y lsR rest tgt ht kt kf => lv_icmp_ne hx hb hd ht (fun z => kt (decide_eq_true z)) (fun z => kf (decide_eq_false (fun q => q z)))) h k
  case h_35 => obtain rfl : len = 3 := by simpa [ux_lok] using hl
               exact ux_i2W (fun x y lsR rest tgt ht kt kf => lv_icmp_lt hx hb hd ht (fun z => kt (decide_eq_true z)) (fun z => kf (decide_eq_false z))) h k
  case h_36 => obtain rfl : len = 3 := by simpa [ux_lok] using hl
               exact ux_i2W (fun x y lsR rest tgt ht kt kf => lv_icmp_ge hx hb hd ht (fun z => kt (decide_eq_true z)) (fun z => kf (decide_eq_false z))) h k
  case h_37 => obtain rfl : len = 3 := by simpa [ux_lok] using hl
               exact ux_i2W (fun x y lsR rest tgt ht kt kf => lv_icmp_gt hx hb hd ht (fun z => kt (decide_eq_true z)) (fun z => kf (decide_eq_false z))) h k
  case h_38 => obtain rfl : len = 3 := by simpa [ux_lok] using hl
               exact ux_i2W (fun x y lsR rest tgt ht kt kf => lv_icmp_le hx hb hd ht (fun z => kt (decide_eq_true z)) (fun z => kf (decide_eq_false z))) h k
  case h_39 => obtain rfl : len = 3 := by simpa [ux_lok] using hl
               intro lsR hL
               obtain ⟨tgt, h1, h2⟩ := ux_goW hL h k
               exact lv_goto hx hb hd h1 h2
  case h_40 => unfold ux_tsw at h
               split at h
               · intro lsR hL
                 split at h
                 · rename_i ho
                   obtain ⟨tgt, h1, h2⟩ := ux_goW hL h k
                   exact lv_tableOut hx hb hd ho h1 h2
                 · rename_i ho
                   split at h
                   · rename_i off hof
                     obtain ⟨tgt, h1, h2⟩ := ux_goW hL h k
                     exact lv_tableIn hx hb hd (fun q => ho (Or.inl q)) (fun q => ho (Or.inr q)) hof h1 h2
                   · cases h
               · cases h
  case h_41 => unfold ux_lsw at h
               split at h
               · intro lsR hL
                 split at h
                 · rename_i hp
                   obtain ⟨tgt, h1, h2⟩ := ux_goW hL h k
                   exact lv_lookup hx hb hd hp rfl h1 h2
                 · cases h
               · cases h
  case h_42 => cases h
end UXS
