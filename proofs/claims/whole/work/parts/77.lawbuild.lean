/-! The law's loop: build. -/
theorem adL_m1 {sl : List Int32} {us : Nat → List sU} {f : Nat} (hf : f < 8) (h : ¬ (adL sl us).getD f 0 = -1) : ¬ sl.getD f 0 = -1 := by
  intro e
  rw [adL_at hf, if_pos e] at h
  exact h rfl
section LW3
variable {sc : List Int32} {i N : Nat} {E : ux_Ev} {x z : Nat} {w : Bool} {K : ux_K1}
set_option maxRecDepth 100000 in
theorem lw_build (h : RL N E) (hNb : N ≤ 40000) (hN : lwK sc i N x z K) (v5 v6 : Value) : ux_B uxP sc 110 0 423 [.ref 0, .ref 1, .ref 210, .ref 238, .int (nI i), v5, v6] [] E x z w K := by
  obtain ⟨sl, tx, us, fk, fp, dn, ct, W, AD, PR, L, rs, sp, n, F, pc, S, B, R, g, A, y0, st, q, hc, hI, hn, hp, hm, hR, hst, ht, ho, h9⟩ := h
  obtain ⟨⟨t1, t2, t3, t4⟩, ⟨t5, t6, t7, t8⟩, ⟨t9, t10⟩, t11, t12, t13⟩ := ht
  have hV : ∀ f, f < 8 → uO f (us f) := fun f hf => (hR.2.2 f hf).1
  have hok := hc.2.2.1
  have htx : ∀ f, f < 8 → (tx f).length ≤ 30 := fun f hf => (hR.1.2 f hf).1
  have hct5 : ct.length = 5 := hc.2.2.2.2.2.2.2.2.1.2
  refine ux_BN 1 rfl ?_
  refine ux_Bv rfl rfl rfl hc.1 rfl (by decide) rfl rfl ?_
  refine ux_Bmu (d := 101) ?_ (by decide)
  refine ko_build hc hI hp.1 hV fun E1 w1 W' AD' PR' L' y c1 i1 f1 hcase => ?_
  have hm1 : md E1 g A E1 := hm.mv fun b b1 b2 => f1 b (by omega)
  have hn1 := hn.fr (E2 := E1) fun b b1 b2 => f1 b (by omega)
  have ho1 : E1 238 = some (102, [], [.long q]) := by rw [f1 238 (by omega)]; exact ho
  have h91 : E1 239 = none := by rw [f1 239 (by omega)]; exact h9
  refine ux_BN 1 rfl ?_
  refine ux_Bv rfl rfl rfl hm1.1 rfl (by decide) rfl rfl ?_
  refine mo_build hm1 hR hok (by omega) fun E2 w2 g2 A2 st2 y2 m2 R2 s2 k1 k2 k3 k4 k5 k6 k7 k8 k9 k10 => ?_
  have hct : upC (ctN rnM (rB sl tx us) 8 (ct0 (A 225))) = ctN rnC (rB sl tx us) 8 (ct0 ct) := by
    obtain ⟨a, b, e⟩ := ct0_c hct5
    rw [t4, ← ctN_tie (by rw [e]; rfl), ct0_up hct5]
  have hyy : y = y2 ∧ (W' = A2 226 ∧ AD' = A2 227 ∧ g2 17 = nI L') ∧ iOk W' AD' PR' L' ∧ ∀ f, f < 8 → ¬ AD'.getD f 0 = -1 → (A2 228).getD f 0 = PR'.getD f 0 := by
    rcases hcase with ⟨b1, b2, rfl, rfl, rfl, rfl⟩ | ⟨b1, b2, b3, rfl, rfl, rfl, rfl⟩ | ⟨b1, b2, b3, b4, b5, b6, b7⟩
    · rcases k5 with ⟨c1, c2, c3, c4, c5⟩ | ⟨c1, _⟩ | ⟨c1, _⟩
      · refine ⟨by rw [b2, c2], ⟨by rw [c3, t5], by rw [c4, t6], by rw [c5, t8]⟩, hp.1, ?_⟩
        rw [k6 (Or.inl b1)]; exact t7
      · exact absurd c1 b1
      · exact absurd c1 b1
    · rcases k5 with ⟨c1, _⟩ | ⟨c1, c2, c3, c4, c5, c6⟩ | ⟨c1, c2, _⟩
      · exact absurd b1 c1
      · refine ⟨by rw [b3, c3], ⟨by rw [c4, t5], by rw [c5, t6], by rw [c6, t8]⟩, hp.1, ?_⟩
        rw [k6 (Or.inr b2)]; exact t7
      · omega
    · rcases k5 with ⟨c1, _⟩ | ⟨c1, c2, _⟩ | ⟨c1, c2, c3, c4, c5, c6⟩
      · exact absurd b1 c1
      · omega
      · have hl := lOk_of hok htx hV b1
        refine ⟨by rw [b3, c3, c6, b7], ⟨by rw [b4, c4, t5], by rw [b5, c5], by rw [c6, b7]⟩, ?_, ?_⟩
        · rw [b4, b5, b6, b7]
          exact link_ok hl hp.1.1 b2 (by simp [prL]) (fun f hf hpf => by rw [prL_at hf, if_neg hpf])
        · intro f hf hne
          rw [b5] at hne
          have hsl := adL_m1 hf hne
          rw [b6, prL_at hf, if_neg hsl, k7 ⟨b1, b2⟩, List.getD_eq_getElem?_getD, List.getElem?_map, List.getElem?_range hf]
          show (A 212).getD f 0 &&& 3 = sPar (sl.getD f 0)
          have h211 : ¬ (A 211).getD f 0 = 0 := fun e => hsl ((hR.1.1 f hf).1 e)
          rw [← ((hR.1.1 f hf).2 h211).1]; rfl
  obtain ⟨e1, ⟨e2, e3, e4⟩, e5, e6⟩ := hyy
  refine ux_BN 1 rfl ?_
  refine ux_Byes e1 ?_
  refine hN 0 (by omega) _ _ _ _ (RL_of (y0 := y0) c1 i1 hn1 ⟨e5, hp.2⟩ m2 R2 (by omega) ?_ ho1 h91)
  exact ⟨⟨by rw [k1, t1], by rw [k2, t2], by rw [k3, t3], by rw [k4, hct]⟩, ⟨e2.symm, e3.symm, e6, e4⟩, ⟨by rw [k10.1]; exact t9, by rw [k10.2]; exact t10⟩, by rw [k8 235 (by decide)]; exact t11, by rw [k8 237 (by decide)]; exact t12, by rw [k8 236 (by decide)]; exact t13⟩
end LW3
