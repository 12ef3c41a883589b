section XMN
variable {l : Launch} {base : Nat} {xa : Nat → Nat} {D : va_G} {cl : List vw_C} {dA : FieldType → ClassId} {Ts : List Cond} {Ns : xNs} {G : xG} {sc : xS}
set_option maxHeartbeats 8000000 in
/-- THE EVALUATOR IS SOUND -/
theorem x_sound (hG : xOK G cl Ts) (hM : xOKm G cl Ts Ns) : ∀ n, xSnd G Ts Ns D cl dA base xa sc l n := by
  intro n
  induction n with
  | zero =>
    intro d M pc L st h r hr
    cases hr
  | succ n ih =>
    intro d M pc L st h r hr p e s m args below meth c R H locs cells slots Q ls hA hs hw hX hlc hl hcR hsR hdR hlR hret
    obtain ⟨hx, hb, hml, hown, hts, hK, hin, hbb, hN⟩ := id hA
    rw [xev] at hr
    split at hr
    · cases hr
    · rename_i i hi
      obtain ⟨nn, hdec, hlen⟩ := hG.1 M pc i hi
      split at hr
      · split at hr
        · rename_i st' q
          obtain ⟨z1, z2⟩ := xs1_len q
          obtain rfl := x_n hlen z1 z2
          exact xs1_ok hx hb hdec q (ih d M _ L st' h r hr p e s m args below meth c R H locs cells slots Q ls hA hs hw hX hlc hl hcR hsR hdR hlR hret)
        · cases hr
      · split at hr
        · rename_i st' q
          obtain ⟨z1, z2⟩ := xs1d_len q
          obtain rfl := x_n hlen z1 z2
          exact xs1d_ok hx hb hdec q (ih d M _ L st' h r hr p e s m args below meth c R H locs cells slots Q ls hA hs hw hX hlc hl hcR hsR hdR hlR hret)
        · cases hr
      · split at hr
        · rename_i L' st' q
          have z1 := xs2_len q
          obtain rfl := x_n hlen z1 rfl
          exact xs2_ok hx hb hown (fun k v z => hts _ (hG.2.2.2.2.1 _ _ _ z)) (fun k v z => hts _ (hG.2.2.2.2.2.1 _ _ _ z)) (fun k i z => by obtain ⟨tx, hz⟩ := hM.1 _ _ _ z; exact ⟨tx, hN.2 _ hz⟩) hdec hl q (fun ls' hl' => ih d M _ L' st' h r hr p e s m args below meth c R H locs cells slots Q ls' hA hs hw hX hlc hl' hcR hsR hdR hlR hret)
        · cases hr
      · split at hr
        · rename_i pc' st' q
          exact xs3_ok hx hb hdec hlen q (ih d M pc' L st' h r hr p e s m args below meth c R H locs cells slots Q ls hA hs hw hX hlc hl hcR hsR hdR hlR hret)
        · cases hr
      · split at hr
        · rename_i st' h' q
          have z1 := xs4_len q
          obtain rfl := x_n hlen z1 rfl
          exact xs4_ok hG hx hb hown hts hK hin hbb hdec hX hs hw hlc q (fun H' locs' e1 hw' hX' hlc' => ih d M _ L st' h' r hr p e s m args below meth c R H' locs' cells slots Q ls hA (by rw [e1]; exact hs) hw' hX' hlc' hl hcR hsR hdR hlR hret)
        · cases hr
      · split at hr
        · split at hr
          · rename_i q
            obtain ⟨z1, z2⟩ := xret_len q
            obtain rfl := x_n hlen z1 z2
            cases hr
            exact hret pc ls i H locs hdec q hs hw hX hlc
          · cases hr
        · split at hr
          · rename_i q
            obtain ⟨z1, z2⟩ := xret_len q
            obtain rfl := x_n hlen z1 z2
            cases hr
            exact hret pc ls i H locs hdec q hs hw hX hlc
          · cases hr
        · cases hr
      · split at hr
        · rename_i k
          split at hr
          · rename_i ci q
            obtain rfl : nn = 3 := x_n hlen rfl rfl
            obtain ⟨v, h', a1, a2, e1, rfl⟩ := xadd_some hr
            obtain ⟨C, T, N, ty, hc, hwi, hty, hcl, hins, hini, hln, hmp, hdf⟩ := hG.2.2.2.1 _ _ _ q
            have k1 : cells + (1 + a1) ≤ R.cells := hcR
            have k2 : slots + ((xDfl G ci).length + a2) ≤ R.slots := hsR
            refine va_new (ci := ci) (fs := xDfl G ci) (C := C) (T := T) (N := N) hx hb hts hwi ty hty hown (hts _ hcl) (hts _ hins) (hts _ hini) hK hw.2 (xw_D dA base xa h) (x_sS hlc) (fun q z => by have := hw.1; show base ≤ q; omega) hc hdf (by omega) (by omega) hdec ?_
            intro q H1 hP1 hD1 hS1
            refine x_room (n := base + (h.length + 1)) (by omega) (fun hsz => ?_)
            obtain ⟨e2, e3⟩ := x_fresh hsz hP1 hD1
            subst e2
            have hw1 : xW D cl dA base xa (h ++ [.inr (ci, xDfl G ci)]) H1 := ⟨by rw [e3]; simp, by rw [xw_push]; simp only [xc, hmp]; exact hP1⟩
            have := ih d M (pc + 3) L (.ref h.length :: st) (h ++ [.inr (ci, xDfl G ci)]) _ e1 p e s m args below meth c R H1 locs (cells + 1) (slots + N) Q ls hA (by simp; omega) hw1 (x_X hX hbb (by have := hw.1; omega) hS1) hlc hl (by show cells + 1 + a1 ≤ _; omega) (by show slots + N + a2 ≤ _; omega) hdR hlR (fun pc' ls' i H' locs' u1 u2 u3 u4 u5 u6 => by
              have k3 := hret pc' ls' i H' locs' u1 u2 (by rw [← u3]; show s.heap.size + (cells + (1 + a1)) = s.heap.size + (cells + 1 + a1); omega) u4 u5 u6
              have f1 : cells + (1 + a1) = cells + 1 + a1 := by omega
              have f2 : slots + ((xDfl G ci).length + a2) = slots + N + a2 := by omega
              simp only [f1, f2] at k3
              exact k3)
            exact this
          · cases hr
        · cases hr
      · split at hr
        · rename_i t k r0 hq9
          split at hr
          · cases hr
          · rename_i q0
            have q1 : ¬ k < 0 := fun z => q0 (Or.inl z)
            have q2 : k.toNatClampNeg ≤ 1000000 := Nat.not_lt.mp (fun z => q0 (Or.inr z))
            split at hr
            · rename_i c0 qn
              obtain rfl : nn = 2 := x_n hlen rfl rfl
              obtain ⟨v, h', a1, a2, e1, rfl⟩ := xadd_some hr
              have k1 : cells + (1 + a1) ≤ R.cells := hcR
              have k2 : slots + (k.toNatClampNeg + a2) ≤ R.slots := hsR
              have fin : ∀ (ty : FieldType) (x : vp_A), c0 = .inl (ty, x) → xprim ty = true → newarray.typeOf t = ty → (∀ cA : ClassId, vp_cell cA x = arrV cA k.toNatClampNeg (fun _ => defaultValue ty)) → k.toNatClampNeg * componentBytes ty ≤ 536870912 → Cond.arrayClass ty ∈ Ts → W p l e R s m args below meth c H locs cells slots Q (F0 m pc ls ((.int k :: r0).map (xv base xa))) := by
                intro ty x hc0 hpr hty hcell hby hac
                subst hc0
                refine va_newa (atype := t) (ty := ty) (n := k) (N' := k.toNatClampNeg) (a0 := x) hx hb (by rw [hty]; exact hts _ hac) hty hK hw.2 (xw_D dA base xa h) (x_sS hlc) (fun q z => by have := hw.1; show base ≤ q; omega) hcell q1 rfl hby (by omega) (by omega) hdec ?_
                intro q cA H1 hK1 hP1 hD1 hS1
                obtain rfl := x_arrEq hpr hK hK1
                refine x_room (n := base + (h.length + 1)) (by omega) (fun hsz => ?_)
                obtain ⟨e2, e3⟩ := x_fresh hsz hP1 hD1
                subst e2
                have hw1 : xW D cl dA base xa (h ++ [.inl (ty, x)]) H1 := ⟨by rw [e3]; simp, by rw [xw_push]; exact hP1⟩
                exact ih d M (pc + 2) L (.ref h.length :: r0) (h ++ [.inl (ty, x)]) _ e1 p e s m args below meth c R H1 locs (cells + 1) (slots + k.toNatClampNeg) Q ls hA (by simp; omega) hw1 (x_X hX hbb (by have := hw.1; omega) hS1) hlc hl (by show cells + 1 + a1 ≤ _; omega) (by show slots + k.toNatClampNeg + a2 ≤ _; omega) hdR hlR (fun pc' ls' i H' locs' u1 u2 u3 u4 u5 u6 => by
                  have k3 := hret pc' ls' i H' locs' u1 u2 (by rw [← u3]; show s.heap.size + (cells + (1 + a1)) = s.heap.size + (cells + 1 + a1); omega) u4 u5 u6
                  have f1 : cells + (1 + a1) = cells + 1 + a1 := by omega
                  have f2 : slots + (k.toNatClampNeg + a2) = slots + k.toNatClampNeg + a2 := by omega
                  simp only [f1, f2] at k3
                  exact k3)
              obtain ⟨w1, w2, w3, w4⟩ := hG.2.2.2.2.2.2.1
              cases t with
              | int => cases qn; exact fin .int _ rfl rfl rfl (fun cA => rfl) (by show _ * 4 ≤ _; omega) w1
              | long => cases qn; exact fin .long _ rfl rfl rfl (fun cA => rfl) (by show _ * 8 ≤ _; omega) w2
              | byte => cases qn; exact fin .byte _ rfl rfl rfl (fun cA => rfl) (by show _ * 1 ≤ _; omega) w3
              | boolean => cases qn; exact fin .boolean _ rfl rfl rfl (fun cA => rfl) (by show _ * 1 ≤ _; omega) w4
              | _ => cases qn
            · cases hr
        · cases hr
      · split at hr
        · rename_i d' kind N k ci qk
          obtain ⟨z1, z2⟩ := xlink_len qk
          obtain rfl := x_n hlen z1 z2
          split at hr
          · split at hr
            · rename_i a0 r0
              split at hr
              · cases hr
              · rename_i q8
                rcases xlink_in qk with ⟨idx, _, zk, _⟩ | ⟨idx, _, zk, _⟩ | ⟨idx, rfl, _, q1⟩
                · cases zk
                · rcases zk with zk | zk | zk | zk <;> cases zk
                · obtain ⟨c1, c2, c3⟩ := hM.2 _ _ _ _ _ _ q1
                  exact W.objInit hx hb hown (hts _ c1) (hts _ c2) (hts _ c3) rfl (by rw [hml]; exact hl.1) rfl hdec (by omega) (by have := lv_room (m := m) (pc := pc) (ls := ls) (rest := ((.ref a0 :: r0).map (xv base xa))) (x_rest (base := base) (xa := xa) r0 q8); omega) (ih (d' + 1) M (pc + 3) L r0 h r hr p e s m args below meth c R H locs cells slots Q ls hA hs hw hX hlc hl hcR hsR hdR hlR hret)
            · cases hr
          · split at hr
            · rename_i st' h' q
              rcases xlink_in qk with ⟨idx, _, zk, _⟩ | ⟨idx, rfl, _, q1⟩ | ⟨idx, _, zk, _⟩
              · cases zk
              · obtain ⟨c1, c2, c3, c4⟩ := hM.2 _ _ _ _ _ _ q1
                exact xcopy_ok hx hb (by rw [hml]; exact hl.1.symm) hown (hts _ c1) (hts _ c2) (hts _ c3) (hts _ c4) hK hbb hdec hX hs hw hlc (by omega) (by omega) q (fun H' locs' e1 hw' hX' hlc' => ih (d' + 1) M _ L st' h' r hr p e s m args below meth c R H' locs' cells slots Q ls hA (by rw [e1]; exact hs) hw' hX' hlc' hl hcR hsR hdR hlR hret)
              · rcases zk with zk | zk | zk <;> cases zk
            · cases hr
          · split at hr
            · rename_i y x r0
              split at hr
              · cases hr
              · rename_i q8
                rcases xlink_in qk with ⟨idx, _, zk, _⟩ | ⟨idx, rfl, _, q1⟩ | ⟨idx, _, zk, _⟩
                · cases zk
                · obtain ⟨c1, c2, c3, c4⟩ := hM.2 _ _ _ _ _ _ q1
                  have q9 := x_rest (base := base) (xa := xa) r0 q8
                  exact va_mmax hx hb (by rw [hml]; exact hl.1.symm) hown (hts _ c1) (hts _ c2) (hts _ c3) (hts _ c4) (by omega) (by omega) (by omega) (by omega) hdec (ih (d' + 1) M (pc + 3) L (.int (if x < y then y else x) :: r0) h r hr p e s m args below meth c R H locs cells slots Q ls hA hs hw hX hlc hl hcR hsR hdR hlR hret)
                · rcases zk with zk | zk | zk <;> cases zk
            · cases hr
          · split at hr
            · rename_i y x r0
              split at hr
              · cases hr
              · rename_i q8
                rcases xlink_in qk with ⟨idx, _, zk, _⟩ | ⟨idx, rfl, _, q1⟩ | ⟨idx, _, zk, _⟩
                · cases zk
                · obtain ⟨c1, c2, c3, c4⟩ := hM.2 _ _ _ _ _ _ q1
                  have q9 := x_rest (base := base) (xa := xa) r0 q8
                  exact va_mmin hx hb (by rw [hml]; exact hl.1.symm) hown (hts _ c1) (hts _ c2) (hts _ c3) (hts _ c4) (by omega) (by omega) (by omega) (by omega) hdec (ih (d' + 1) M (pc + 3) L (.int (if y < x then y else x) :: r0) h r hr p e s m args below meth c R H locs cells slots Q ls hA hs hw hX hlc hl hcR hsR hdR hlR hret)
                · rcases zk with zk | zk | zk <;> cases zk
            · cases hr
          · split at hr
            · cases hr
            · rename_i q0
              split at hr
              · rename_i v h' a1 a2 qe
                obtain ⟨v2, h2, b1, b2, e2, rfl⟩ := xadd_some hr
                have k1 : cells + (a1 + b1) ≤ R.cells := hcR
                have k2 : slots + (a2 + b2) ≤ R.slots := hsR
                refine xcall_ok hG hM ih hA hdec qk (fun z => q0 (Or.inl z)) (fun z => q0 (Or.inr (Or.inl z))) (fun z => q0 (Or.inr (Or.inr (Or.inl z)))) ?_ qe hX hw hlc hl.1 hdR hlR (by show cells + a1 ≤ _; omega) (by show slots + a2 ≤ _; omega) ?_
                · cases zz : xhead (xByt G).length kind ci (st.take k).reverse h with
                  | true => rfl
                  | false => exact absurd (Or.inr (Or.inr (Or.inr zz))) q0
                · intro H' locs' e1 hw' hX' hlc'
                  have e1' : h.length + a1 = h'.length := e1
                  refine ih (d' + 1) M (pc + 3) L (v.toList ++ st.drop k) h' _ e2 p e s m args below meth c R H' locs' (cells + a1) (slots + a2) Q ls hA (by omega) hw' hX' hlc' hl (by show cells + a1 + b1 ≤ _; omega) (by show slots + a2 + b2 ≤ _; omega) hdR hlR (fun pc' ls' i H' locs' u1 u2 u3 u4 u5 u6 => ?_)
                  have k3 := hret pc' ls' i H' locs' u1 u2 (by rw [← u3]; show s.heap.size + (cells + (a1 + b1)) = s.heap.size + (cells + a1 + b1); omega) u4 u5 u6
                  have f1 : cells + (a1 + b1) = cells + a1 + b1 := by omega
                  have f2 : slots + (a2 + b2) = slots + a2 + b2 := by omega
                  simp only [f1, f2] at k3
                  exact k3
              · cases hr
        · cases hr
      · cases hr
end XMN
