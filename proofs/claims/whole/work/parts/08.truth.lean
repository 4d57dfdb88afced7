/-! THE EVALUATOR TELLS THE TRUTH. -/
def ux_ok (P : ux_P) (M : ux_M) (Tw : List Cond) (cl : List vw_C) (ty : Nat → Nat → FieldType) (aty : Nat → Option FieldType) (zs : List (String × String × String)) (ex : Nat → String × List String) : Prop :=
  ux_okI P M ∧ ux_okC Tw cl ty ∧ ux_okF P M Tw cl ty ∧ ux_okN P M Tw cl ty ∧ ux_okA P M Tw cl aty ∧ ux_okL P M Tw ∧ ux_okR P M ∧ ux_okT P M Tw zs ex ∧ ux_okG P M Tw cl ∧ ux_okW Tw ∧ ∀ i, ux_hs ex Tw (M i).1.cls (P.2.2.2.2.2.2 i).2.2 (M i).2.2.2
def ux_E (ex : Nat → String × List String) (s : State) : Prop := ∀ j k, j < 3 → k < 3 → j ≠ k → va_Nc (ex k).1 (ex j).1 s
theorem ux_sum_tr (b n0 : Nat) (r : List Value) : ((r.map (ux_tr b n0)).map fun v => v.category).sum = (r.map fun v => v.category).sum := by
  rw [List.map_map]
  congr 1
  exact List.map_congr_left fun v _ => ux_cat b n0 v
set_option maxHeartbeats 8000000 in
theorem ux_sound {P : ux_P} {M : ux_M} {Tw : List Cond} {cl : List vw_C} {ty : Nat → Nat → FieldType} {aty : Nat → Option FieldType} {zs : List (String × String × String)} {ex : Nat → String × List String} (hok : ux_ok P M Tw cl ty aty zs ex) {l : Launch} (htr : l.stackTraces = false) {p : Program} {e : Env} (hx : p.tables.exec = Jvm.exec) {D : va_G} {ca : Nat → ClassId} {b n0 : Nat} {sc : List Int32} :
    ∀ (n d i pc : Nat) (ls st : List Value) (hh : ux_H) (o : ux_O) (hh' : ux_H), ux_run P sc n d i pc ls st hh = some (o, hh') →
    ∀ (R : Room) (s : State) (m : MethodId) (args : Array Value) (below : List Frame) (meth : Method) (c : Code) (H : Heap) (locs : List Loc) (cells slots nc0 ns0 : Nat),
      c.code = (M i).2.1 → c.maxLocals = (P.2.2.2.2.2.2 i).1 → meth.sig.returnType = (M i).2.2.1 → meth.locks = false → c.exceptionTable.toList = tableOf (M i).2.2.2 → s.vm.findClass (M i).1.cls = some m.cls → meth.name = (M i).1.name → ux_K Tw aty D cl ca s → ux_E ex s →
      ux_R aty D cl ca b n0 sc zs s hh H → (∀ x ∈ locs, n0 ≤ x.base) → cells + nc0 = ux_nc hh → slots + ns0 = ux_ns hh → ux_nc hh' ≤ nc0 + R.cells → ux_ns hh' ≤ ns0 + R.slots → d + 8 ≤ R.frames → 64 * d + 200 ≤ R.locals → (hh.2.2.2 = false → locs = [] ∧ H = s.heap ∧ cells = 0 ∧ slots = 0) →
      ux_V p l e R s m args below meth c H locs cells slots (ux_Q aty D cl ca b n0 sc zs ex s below nc0 ns0 o hh') b n0 (P.2.2.2.2.2.2 i).1 pc ls st := by
  obtain ⟨okI, okC, okF, okN, okA, okL, okR, okT, okG, okW, okX⟩ := hok
  have okH : ux_okH P M := fun i h => by
    have := (okX i).1
    rw [h] at this
    exact List.eq_nil_of_length_eq_zero this.symm
  intro n
  induction n with
  | zero => intro d i pc ls st hh o hh' h; cases h
  | succ n ih =>
    intro d i pc ls st hh o hh' h R s m args below meth c H locs cells slots nc0 ns0 hb hml hr hlk htab hown hnme hK hE hR hloc hc0 hs0 hcR hsR hfr hlo hw
    have hmo0 := ux_run_mono (n + 1) d i pc ls st hh o hh' h
    unfold ux_run at h
    split at h
    · cases h
    · rename_i ins len hins
      obtain ⟨hd, hlok⟩ := okI _ _ _ _ hins
      split at h
      · rename_i pc' ls' st' hsim
        exact ux_simW hx hb hd hlok hsim (ih _ _ _ _ _ _ _ _ h R s m args below meth c H locs cells slots nc0 ns0 hb hml hr hlk htab hown hnme hK hE hR hloc hc0 hs0 hcR hsR hfr hlo hw)
      · split at h
        · rename_i len' st' h2 hmem
          have hmo := ux_run_mono _ _ _ _ _ _ _ _ _ h
          refine ux_memW okF okN okA okL okC hx hb hown hnme hml hK hd hlok hmem hR hloc hc0 hs0 (Nat.le_trans hmo.1 hcR) (Nat.le_trans hmo.2 hsR) (by omega) (by omega) fun H' locs' cells' slots' g1 g2 g3 g4 g5 => ?_
          refine ih _ _ _ _ _ _ _ _ h R s m args below meth c H' locs' cells' slots' nc0 ns0 hb hml hr hlk htab hown hnme hK hE g3 g4 g1 g2 hcR hsR hfr hlo fun hf => ?_
          obtain ⟨k1, k2, k3, k4, k5⟩ := g5 hf
          obtain ⟨j1, j2, j3, j4⟩ := hw k1
          exact ⟨k3.trans j1, k2.trans j2, k4.trans j3, k5.trans j4⟩
        · split at h
          · rename_i v hret
            cases h
            exact ux_retW okR hx hb hr hlk hd hlok hret hR hloc hc0 hs0 hw
          · split at h
            · rename_i k hthr
              cases h
              exact ux_thrW okI okT okH hx hb hown hml htab hlk htr hK hd hlok hthr hR hc0 hs0 (by simp [ux_nc] at hcR ⊢; omega) (by simp [ux_ns] at hsR ⊢; omega) (by omega) (by omega) hw
            · split at h
              · rename_i j as r d' hcal
                split at h
                · rename_i hcond
                  obtain ⟨hc1, hc2, hc3, hc4⟩ := hcond
                  have hcat : ∀ v ∈ as, v.category = 1 := fun v hv => by simpa using List.all_eq_true.mp hc4 v hv
                  intro lsR hL T hT X
                  obtain ⟨rfl, w1, w4, vm₁, mk, X₁, hnamed, st1⟩ := ux_invW okG hx hb hown hK hd hlok hcal hR hT X lsR
                  have hKU : ux_K Tw aty D cl ca (T.setVm vm₁) := hK.moved okW X₁.warmed
                  have hnU : (T.setVm vm₁).methodNamed? (M j).1 = some mk := X₁.named hnamed
                  obtain ⟨methk, ck, hmk, hck, hbk, hmlk, hretk, hlkk, htabk, -⟩ := ux_word_spec w4 hKU.2.2 hnU
                  have hpk : (T.setVm vm₁).plainMethod mk := State.plainMethod.of_name (fun k hk => by
                    obtain ⟨k', hk', hn⟩ := className_of_methodNamed hnU
                    cases hk.symm.trans hk'
                    rw [hn]; exact w1)
                  have hdc : decode c.code (F0 m pc lsR (r.map (ux_tr b n0))).pc = .ok (ins, 3) := by rw [hb]; exact hd
                  have hsz : (F0 m pc lsR (r.map (ux_tr b n0))).locals.size = c.maxLocals := by rw [hml]; exact hL.2.2.1
                  have hcl : cells ≤ R.cells := by omega
                  have hsl : slots ≤ R.slots := by omega
                  obtain ⟨Y₀, hin⟩ := X₁.into (g := F0 m pc lsR (r.map (ux_tr b n0))) rfl hsz hdc (as.map (ux_tr b n0)).toArray (R' := { frames := d' + 8, cells := R.cells - cells, slots := R.slots - slots, locals := 64 * d' + 200 }) hmk hck hlkk hpk (by show d' + 8 + 1 ≤ R.frames; omega)
                    (by show 2 * 0 + ((r.map (ux_tr b n0)).map fun v => v.category).sum + (ck.maxLocals + 11) + (64 * d' + 200) ≤ R.locals
                        rw [ux_sum_tr, hmlk]; omega) (by show cells + (R.cells - cells) ≤ R.cells; omega) (by show slots + (R.slots - slots) ≤ R.slots; omega)
                  have hvs : ((T.setVm vm₁).calling (F0 m pc lsR (r.map (ux_tr b n0))) mk (as.map (ux_tr b n0)).toArray).vm = vm₁ := by rw [State.calling_eq X₁.here.top]; rfl
                  have hhs : ((T.setVm vm₁).calling (F0 m pc lsR (r.map (ux_tr b n0))) mk (as.map (ux_tr b n0)).toArray).heap = H := by rw [State.calling_eq X₁.here.top]; exact hT
                  have hWs : s.WarmedH ((T.setVm vm₁).calling (F0 m pc lsR (r.map (ux_tr b n0))) mk (as.map (ux_tr b n0)).toArray).vm := by rw [hvs]; exact X₁.warmed
                  generalize hs' : (T.setVm vm₁).calling (F0 m pc lsR (r.map (ux_tr b n0))) mk (as.map (ux_tr b n0)).toArray = s' at Y₀ hvs hhs hWs
                  have hback : s'.vm.Alike s.vm := hWs.alike.symm
                  obtain ⟨lsR2, hL2, hent⟩ := ux_entry b n0 mk as (P.2.2.2.2.2.2 j).1 hcat hc2
                  have inner : ∀ (o1 : ux_O) (h1 : ux_H), ux_run P sc n d' j 0 (as ++ List.replicate ((P.2.2.2.2.2.2 j).1 - as.length) .null) [] (hh.1, hh.2.1, hh.2.2.1, false) = some (o1, h1) → ux_nc h1 ≤ ux_nc hh' → ux_ns h1 ≤ ux_ns hh' →
                      ∃ t, (∀ acts, Steps p.tables e below (doInvoke e ((T.setVm vm₁).setTop (F0 m pc lsR (r.map (ux_tr b n0)))) acts mk (as.map (ux_tr b n0)).toArray).1 t) ∧ ux_Q aty D cl ca b n0 sc zs ex s' (.java (F0 m pc lsR (r.map (ux_tr b n0))) :: below) (ux_nc hh) (ux_ns hh) o1 h1 t := by
                    intro o1 h1 hrun hn1 hn2
                    have key := ih d' j 0 _ [] _ o1 h1 hrun { frames := d' + 8, cells := R.cells - cells, slots := R.slots - slots, locals := 64 * d' + 200 } s' mk (as.map (ux_tr b n0)).toArray (.java (F0 m pc lsR (r.map (ux_tr b n0))) :: below) methk ck H [] 0 0 (ux_nc hh) (ux_ns hh) hbk hmlk hretk hlkk htabk
                      (by rw [hvs]; exact findClass_of_methodNamed hnU) (name_of_methodNamed hnU hmk).1 (hK.moved okW hWs) (fun a1 a2 b1 b2 b3 => (hE a1 a2 b1 b2 b3).moved hWs.alike) ((hR.moved hWs.alike).like rfl rfl) (fun x hx => by cases hx) (by simp [ux_nc]) (by simp [ux_ns]) (by show ux_nc h1 ≤ ux_nc hh + (R.cells - cells); omega) (by show ux_ns h1 ≤ ux_ns hh + (R.slots - slots); omega) (Nat.le_refl _) (Nat.le_refl _) (fun _ => ⟨rfl, hhs.symm, rfl, rfl⟩) lsR2 hL2
                    obtain ⟨t, hst, hq⟩ := key _ (show (((T.setVm vm₁).setTop (F0 m pc lsR (r.map (ux_tr b n0)))).pushFrame (.java (entryFrame mk (as.map (ux_tr b n0)).toArray ck.maxLocals))).heap = H from hT) Y₀
                    refine ⟨t, fun acts => ?_, hq⟩
                    rw [hin acts, hmlk, hent]
                    rw [hmlk, hent] at hst
                    exact ux_weaken hst
                  split at h
                  · rename_i v h1 hrun
                    have hmo := ux_run_mono _ _ _ _ _ _ _ _ _ h
                    obtain ⟨t, hgo, oc, L, C, S, q1, q2, q3, q4, q5, q6, q7, q8, q9, q10⟩ := inner _ _ hrun hmo.1 hmo.2
                    have q10 : oc = .returned (v.map (ux_tr b n0)) := q10
                    subst q10
                    rw [← hs'] at q3 q4
                    obtain ⟨T', X', hW', -, ht⟩ := X₁.outOf (g := F0 m pc lsR (r.map (ux_tr b n0))) rfl hdc q2 q3 q4
                    have hh1 : t.heap = T'.heap := by rw [ht]; rfl
                    have hst2 : (v.map (ux_tr b n0)).toList ++ r.map (ux_tr b n0) = (v.toList ++ r).map (ux_tr b n0) := by cases v <;> rfl
                    obtain ⟨t2, k1, k2⟩ := ih _ _ _ _ _ _ _ _ h R s m args below meth c T'.heap (locs ++ L) (cells + C) (slots + S) nc0 ns0 hb hml hr hlk htab hown hnme hK hE (((q9.moved hback).like rfl rfl) |> fun z => by rw [hh1] at z; exact z)
                      (fun x hx => by rcases List.mem_append.mp hx with g | g; exact hloc x g; exact q7 x g) (by show cells + C + nc0 = ux_nc h1; omega) (by show slots + S + ns0 = ux_ns h1; omega) hcR hsR hfr hlo (fun hf => by
                        have hf : (hh.2.2.2 || h1.2.2.2) = false := hf
                        rw [Bool.or_eq_false_iff] at hf
                        obtain ⟨j1, j2, j3, j4⟩ := hw hf.1
                        obtain ⟨i1, i2, i3, i4⟩ := q8 hf.2
                        refine ⟨by rw [j1, i1]; rfl, by rw [← hh1, i2, hhs, j2], by omega, by omega⟩) lsR hL T' rfl X'
                    refine ⟨t2, st1 t2 fun acts => (hgo acts).trans ?_, k2⟩
                    rw [ht]
                    show Steps p.tables e below (T'.setTop (F0 m (pc + 3) lsR ((v.map (ux_tr b n0)).toList ++ r.map (ux_tr b n0)))) t2
                    rw [hst2]
                    exact k1
                  · rename_i k h1 hrun
                    have hmo : ux_nc h1 ≤ ux_nc hh' ∧ ux_ns h1 ≤ ux_ns hh' := by
                      split at h
                      · split at h
                        · cases h; exact ⟨Nat.le_refl _, Nat.le_refl _⟩
                        · cases h
                      · split at h
                        · split at h
                          · have hz := ux_run_mono _ _ _ _ _ _ _ _ _ h
                            simp only [ux_nc, ux_ns] at hz ⊢
                            exact hz
                          · cases h
                        · cases h
                    obtain ⟨t, hgo, oc, L, C, S, q1, q2, q3, q4, q5, q6, q7, q8, q9, q10⟩ := inner _ _ hrun hmo.1 hmo.2
                    obtain ⟨hk3, x, cell, rfl, c1, c2, c3, c4⟩ := q10
                    rw [← hs'] at q3 q4
                    obtain ⟨T', X', hW', -, ht⟩ := X₁.outOfThrown (g := F0 m pc lsR (r.map (ux_tr b n0))) rfl q2 q3 q4
                    have hh1 : t.heap = T'.heap := by rw [ht, Stand.throwing_heap]
                    have hR1 : ux_R aty D cl ca b n0 sc zs s h1 T'.heap := by rw [← hh1]; exact q9.moved hback
                    have hl1 : ∀ x ∈ locs ++ L, n0 ≤ x.base := fun x hx => by rcases List.mem_append.mp hx with g | g; exact hloc x g; exact q7 x g
                    have c3' : s.vm.findClass (ex k).1 = some cell.cls := by rw [← hWs.alike.findClass]; exact c3
                    have c4' : s.vm.assignable cell.cls cell.cls = true := by rw [← hWs.alike.assignable]; exact c4
                    split at h
                    · split at h
                      · rename_i hnil
                        cases h
                        have hout : ∀ y ∈ c.exceptionTable.toList, covers y (F0 m pc lsR (r.map (ux_tr b n0))).pc = false := fun y hy => by
                          rw [htab, okH i hnil] at hy; cases hy
                        obtain ⟨v1, v2, v3, v4, v5⟩ := X'.leaveThrown x (g := F0 m pc lsR (r.map (ux_tr b n0))) rfl rfl rfl hout hlk
                        refine ⟨_, st1 _ fun acts => (hgo acts).trans (by rw [ht]; exact v1), .threw x, locs ++ L, cells + C, slots + S, v2, v3, v4, v5, by show cells + C + nc0 = ux_nc h1; omega, by show slots + S + ns0 = ux_ns h1; omega, hl1, fun hf => (by cases hf), (hR1.like rfl rfl), hk3, x, cell, rfl, ?_, c2, c3', c4'⟩
                        show T'.heap[x]? = some cell
                        rw [← hh1]; exact c1
                      · cases h
                    · rename_i tp hhnd
                      split at h
                      · rename_i q lq hlay
                        split at h
                        · rename_i hq
                          obtain ⟨⟨ins2, len2⟩, hp2, hlay2⟩ := Option.bind_eq_some_iff.mp hlay
                          obtain ⟨hd2, hlok2⟩ := okI _ _ _ _ hp2
                          obtain ⟨vm2, X2, st2⟩ := ux_caught X' (g := F0 m pc lsR (r.map (ux_tr b n0))) rfl hown (fun w hw => hK.2.2 w hw args) (fun j1 h3 h4 => hE j1 k h3 hk3 h4) c4' c2 c3' (by rw [← hh1]; exact c1) htab (okX i) hhnd
                          have hrec := ih _ _ _ _ _ _ _ _ h R s m args below meth c T'.heap (locs ++ L) (cells + C) (slots + S) nc0 ns0 hb hml hr hlk htab hown hnme hK hE (hR1.like rfl rfl) hl1 (by show cells + C + nc0 = ux_nc h1; omega) (by show slots + S + ns0 = ux_ns h1; omega) hcR hsR hfr hlo (fun hf => by cases hf)
                          have Wh : W p l e R s m args below meth c T'.heap (locs ++ L) (cells + C) (slots + S) (ux_Q aty D cl ca b n0 sc zs ex s below nc0 ns0 o hh') (F0 m tp lsR [.ref x]) := by
                            have hlay2 : ux_lay ins2 = some (q, lq) := hlay2
                            unfold ux_lay at hlay2
                            split at hlay2
                            · cases hlay2
                              obtain rfl : len2 = 2 := by simpa [ux_lok] using hlok2
                              exact lv_astore hx hb hd2 hL.2.2 (hL.lt hq) rfl fun lsR' h' => hrec lsR' (hL.put (v := .null) rfl (fun z => absurd rfl z) h')
                            · cases hlay2
                              obtain rfl : len2 = 1 := by simpa [ux_lok] using hlok2
                              exact lv_astore_n hx hb hd2 rfl hL.2.2 (hL.lt hq) rfl fun lsR' h' => hrec lsR' (hL.put (v := .null) rfl (fun z => absurd rfl z) h')
                            · cases hlay2
                          obtain ⟨t2, k1, k2⟩ := Wh (T'.setVm vm2) rfl X2
                          refine ⟨t2, st1 t2 fun acts => (hgo acts).trans ?_, k2⟩
                          rw [ht]
                          exact st2 t2 k1
                        · cases h
                      · cases h
                  · cases h
                · cases h
              · cases h
