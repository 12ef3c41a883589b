section XS
variable {p : Program} {l : Launch} {e : Env} {R : Room} {s : State} {m : MethodId} {args : Array Value} {below : List Frame} {meth : Method} {c : Code} {H : Heap} {locs : List Loc} {cells slots : Nat} {Q : State → Prop}
variable {cc : ByteArray} {pc : Nat} {ls : Array Slot} {base : Nat} {xa : Nat → Nat}
set_option maxHeartbeats 4000000 in
theorem xs1_ok (hx : p.tables.exec = Jvm.exec) (hb : c.code = cc) {i : Instr} {st st' : List Value} (hd : decode cc pc = .ok (i, 1)) (h : xs1 i st = some st') (k : W p l e R s m args below meth c H locs cells slots Q (F0 m (pc + 1) ls (st'.map (xv base xa)))) : W p l e R s m args below meth c H locs cells slots Q (F0 m pc ls (st.map (xv base xa))) := by
  unfold xs1 at h
  split at h
  · cases h; exact lv_iadd hx hb hd k
  · cases h; exact lv_isub hx hb hd k
  · cases h; exact lv_imul hx hb hd k
  · split at h
    · cases h
    · rename_i hne; cases h; exact lv_idiv hx hb hd hne k
  · split at h
    · cases h
    · rename_i hne; cases h; exact lv_irem hx hb hd hne k
  · cases h; exact lv_ineg hx hb hd k
  · cases h; exact lv_iand hx hb hd k
  · cases h; exact lv_ior hx hb hd k
  · cases h; exact lv_ixor hx hb hd k
  · cases h; exact lv_ishl hx hb hd k
  · cases h; exact lv_ishr hx hb hd k
  · cases h; exact lv_iushr hx hb hd rfl k
  · cases h; exact lv_ladd hx hb hd k
  · cases h; exact lv_lsub hx hb hd k
  · cases h; exact lv_lmul hx hb hd k
  · split at h
    · cases h
    · rename_i hne; cases h; exact lv_ldiv hx hb hd hne k
  · split at h
    · cases h
    · rename_i hne; cases h; exact lv_lrem hx hb hd hne k
  · cases h; exact lv_lneg hx hb hd k
  · cases h; exact lv_land hx hb hd k
  · cases h; exact lv_lor hx hb hd k
  · cases h; exact lv_lxor hx hb hd k
  · cases h; exact lv_lshl hx hb hd rfl k
  · cases h; exact lv_lshr hx hb hd rfl k
  · cases h; exact lv_lushr hx hb hd rfl k
  · cases h; exact W.lcmp hx hb hd k
  · cases h; exact lv_i2l hx hb hd rfl k
  · cases h; exact lv_l2i hx hb hd rfl k
  · cases h; exact lv_i2b hx hb hd rfl k
  · cases h; exact lv_i2s hx hb hd rfl k
  · cases h; exact lv_i2c hx hb hd rfl k
  · cases h
set_option maxHeartbeats 4000000 in
theorem xs1d_ok (hx : p.tables.exec = Jvm.exec) (hb : c.code = cc) {i : Instr} {st st' : List Value} (hd : decode cc pc = .ok (i, 1)) (h : xs1d i st = some st') (k : W p l e R s m args below meth c H locs cells slots Q (F0 m (pc + 1) ls (st'.map (xv base xa)))) : W p l e R s m args below meth c H locs cells slots Q (F0 m pc ls (st.map (xv base xa))) := by
  have cat : ∀ v : Value, (xv base xa v).category = v.category := xv_cat base xa
  unfold xs1d at h
  split at h
  · split at h
    · rename_i q; cases h; exact lv_dup hx hb hd (by rw [cat]; exact q) k
    · cases h
  · split at h
    · rename_i q; cases h; exact lv_pop hx hb hd (by rw [cat]; exact q) k
    · cases h
  · split at h
    · rename_i q; cases h; exact lv_pop2_2 hx hb hd (by rw [cat]; exact q) k
    · cases h
  · split at h
    · rename_i q; cases h; exact lv_dup_x1 hx hb hd (by rw [cat]; exact q.1) (by rw [cat]; exact q.2) k
    · cases h
  · split at h
    · rename_i q; cases h; exact lv_dup_x2 hx hb hd (by rw [cat]; exact q.1) (by rw [cat]; exact q.2.1) (by rw [cat]; exact q.2.2) k
    · cases h
  · split at h
    · rename_i q; cases h; exact lv_dup2_2 hx hb hd (by rw [cat]; exact q) k
    · split at h
      · rename_i u w r q q2
        cases h
        have q1 : u.category = 1 := by rcases lv_cat u with z | z; exact z; exact absurd z q
        exact lv_dup2_11 hx hb hd (by rw [cat]; exact q1) (by rw [cat]; exact q2) k
      · cases h
  · split at h
    · rename_i q; cases h; exact lv_dup2_2 hx hb hd (by rw [cat]; exact q) k
    · cases h
  · split at h
    · rename_i q; cases h; exact lv_dup2_x1_2 hx hb hd (by rw [cat]; exact q.1) (by rw [cat]; exact q.2) k
    · cases h
  · split at h
    · rename_i q; cases h; exact lv_dup2_x2_2 hx hb hd (by rw [cat]; exact q.1) (by rw [cat]; exact q.2.1) (by rw [cat]; exact q.2.2) k
    · cases h
  · cases h
set_option maxHeartbeats 4000000 in
theorem xs2_ok (hx : p.tables.exec = Jvm.exec) (hb : c.code = cc) {own : String} (hown : s.vm.findClass own = some m.cls) {con : Nat → Option Value} (hc1 : ∀ k v, con k = some (.int v) → (Jvm.Cond.constant own k v).before args s = true) (hc2 : ∀ k v, con k = some (.long v) → (Jvm.Cond.constantLong own k v).before args s = true) {str : Nat → Option Nat} (hstr : ∀ k i, str k = some i → ∃ tx, vk_R own k tx (xa (2 * i + 1)) s)
    {nL : Nat} {i : Instr} {L L' : xL} {st st' : List Value} (hd : decode cc pc = .ok (i, xlen i)) (hl : lv_has ls nL (L.map (xq base xa))) (h : xs2 con str nL i L st = some (L', st')) (k : ∀ ls' : Array Slot, lv_has ls' nL (L'.map (xq base xa)) → W p l e R s m args below meth c H locs cells slots Q (F0 m (pc + xlen i) ls' (st'.map (xv base xa)))) : W p l e R s m args below meth c H locs cells slots Q (F0 m pc ls (st.map (xv base xa))) := by
  unfold xs2 at h
  split at h
  · cases h; exact lv_iconst hx hb hd rfl (k ls hl)
  · cases h; exact lv_bipush hx hb hd rfl (k ls hl)
  · cases h; exact lv_sipush hx hb hd rfl (k ls hl)
  · cases h; exact lv_lconst hx hb hd rfl (k ls hl)
  · cases h; exact lv_null hx hb hd (k ls hl)
  · split at h
    · rename_i q; cases h; exact lv_ldc hx hb hown (hc1 _ _ q) hd (k ls hl)
    · cases h
    · split at h
      · rename_i q; cases h; obtain ⟨tx, hz⟩ := hstr _ _ q; have z := k ls hl; simp only [List.map_cons, xv_txt] at z; exact va_ldcS hx hb hown hz hd z
      · cases h
  · split at h
    · rename_i q; cases h; exact lv_ldc2 hx hb hown (hc2 _ _ q) hd (k ls hl)
    · cases h
  · split at h
    · rename_i q; cases h; exact lv_iload hx hb hd (x_look hl q) (k ls hl)
    · cases h
  · split at h
    · rename_i q; cases h; exact lv_iload_n hx hb hd rfl (x_look hl q) (k ls hl)
    · cases h
  · split at h
    · rename_i q; cases h; exact lv_lload hx hb hd (x_look hl q) (k ls hl)
    · cases h
  · split at h
    · rename_i q; cases h; exact lv_lload_n hx hb hd rfl (x_look hl q) (k ls hl)
    · cases h
  · split at h
    · rename_i q; cases h; exact lv_aload hx hb hd (x_look hl q) (k ls hl)
    · rename_i q
      split at h
      · cases h
      · rename_i q2
        cases h
        have z := k ls hl
        simp only [List.map_cons, xv_ext base xa q2] at z
        exact lv_aload hx hb hd (by rw [x_look hl q, xv_ext base xa q2]) z
    · rename_i q; cases h; exact lv_aloadN hx hb hd (x_look hl q) (k ls hl)
    · cases h
  · split at h
    · rename_i q; cases h; exact lv_aload_n hx hb hd rfl (x_look hl q) (k ls hl)
    · rename_i q
      split at h
      · cases h
      · rename_i q2
        cases h
        have z := k ls hl
        simp only [List.map_cons, xv_ext base xa q2] at z
        exact lv_aload_n hx hb hd rfl (by rw [x_look hl q, xv_ext base xa q2]) z
    · rename_i q; cases h; exact lv_aload_nN hx hb hd rfl (x_look hl q) (k ls hl)
    · cases h
  · split at h
    · split at h
      · rename_i q; cases h; exact lv_istore hx hb hd hl q (xst1_map base xa L _ (.int _)).symm k
      · cases h
    · cases h
  · split at h
    · split at h
      · rename_i q; cases h; exact lv_istore_n hx hb hd rfl hl q (xst1_map base xa L _ (.int _)).symm k
      · cases h
    · cases h
  · split at h
    · split at h
      · rename_i q; cases h; exact lv_lstore hx hb hd hl q (xst2_map base xa L _ (.long _)).symm k
      · cases h
    · cases h
  · split at h
    · split at h
      · rename_i q; cases h; exact lv_lstore_n hx hb hd rfl hl q (xst2_map base xa L _ (.long _)).symm k
      · cases h
    · cases h
  · split at h
    · split at h
      · rename_i q; cases h; exact lv_astore hx hb hd hl q (xst1_map base xa L _ (.ref _)).symm k
      · cases h
    · split at h
      · rename_i q
        cases h
        simp only [List.map_cons, xv_ext base xa q.2]
        exact lv_astore hx hb hd hl q.1 (by rw [xst1_map, xv_ext base xa q.2]) k
      · cases h
    · cases h
  · split at h
    · split at h
      · rename_i q; cases h; exact lv_astore_n hx hb hd rfl hl q (xst1_map base xa L _ (.ref _)).symm k
      · cases h
    · split at h
      · rename_i q
        cases h
        simp only [List.map_cons, xv_ext base xa q.2]
        exact lv_astore_n hx hb hd rfl hl q.1 (by rw [xst1_map, xv_ext base xa q.2]) k
      · cases h
    · cases h
  · split at h
    · rename_i q
      split at h
      · rename_i q2
        cases h
        obtain ⟨n, hn⟩ := x_lookn (base := base) (xa := xa) q
        exact lv_iinc hx hb hd hl hn rfl q2 (xst1_map base xa L _ (.int _)).symm k
      · cases h
    · cases h
  · cases h
set_option maxHeartbeats 4000000 in
theorem xs3_ok (hx : p.tables.exec = Jvm.exec) (hb : c.code = cc) {i : Instr} {n pc' : Nat} {st st' : List Value} (hd : decode cc pc = .ok (i, n)) (hn : xsw i = true ∨ n = xlen i) (h : xs3 pc i st = some (pc', st')) (k : W p l e R s m args below meth c H locs cells slots Q (F0 m pc' ls (st'.map (xv base xa)))) : W p l e R s m args below meth c H locs cells slots Q (F0 m pc ls (st.map (xv base xa))) := by
  unfold xs3 at h
  split at h
  · obtain rfl : n = 3 := by rcases hn with q | q; cases q; exact q
    obtain ⟨t, h1, h2⟩ := Option.map_eq_some_iff.mp h
    cases h2
    exact lv_goto hx hb hd (x_jmp h1) k
  · obtain rfl : n = 3 := by rcases hn with q | q; cases q; exact q
    rename_i q off x r
    split at h
    · rename_i t q1
      cases q
      · split at h
        · rename_i hq; cases h; have hc := of_decide_eq_true hq; exact lv_if_eq hx hb hd (x_jmp q1) (fun _ => k) (fun z => absurd hc z)
        · rename_i hq; cases h; have hc := fun z => hq (decide_eq_true z); exact lv_if_eq hx hb hd (x_jmp q1) (fun z => absurd z hc) (fun _ => k)
      · split at h
        · rename_i hq; cases h; have hc := of_decide_eq_true hq; exact lv_if_ne hx hb hd (x_jmp q1) (fun _ => k) (fun z => absurd z hc)
        · rename_i hq; cases h; have hc : x = 0 := Decidable.not_not.mp (fun z => hq (decide_eq_true z)); exact lv_if_ne hx hb hd (x_jmp q1) (fun z => absurd hc z) (fun _ => k)
      · split at h
        · rename_i hq; cases h; have hc := of_decide_eq_true hq; exact lv_if_lt hx hb hd (x_jmp q1) (fun _ => k) (fun z => absurd hc z)
        · rename_i hq; cases h; have hc := fun z => hq (decide_eq_true z); exact lv_if_lt hx hb hd (x_jmp q1) (fun z => absurd z hc) (fun _ => k)
      · split at h
        · rename_i hq; cases h; have hc := of_decide_eq_true hq; exact lv_if_ge hx hb hd (x_jmp q1) (fun _ => k) (fun z => absurd hc z)
        · rename_i hq; cases h; have hc := fun z => hq (decide_eq_true z); exact lv_if_ge hx hb hd (x_jmp q1) (fun z => absurd z hc) (fun _ => k)
      · split at h
        · rename_i hq; cases h; have hc := of_decide_eq_true hq; exact lv_if_gt hx hb hd (x_jmp q1) (fun _ => k) (fun z => absurd hc z)
        · rename_i hq; cases h; have hc := fun z => hq (decide_eq_true z); exact lv_if_gt hx hb hd (x_jmp q1) (fun z => absurd z hc) (fun _ => k)
      · split at h
        · rename_i hq; cases h; have hc := of_decide_eq_true hq; exact lv_if_le hx hb hd (x_jmp q1) (fun _ => k) (fun z => absurd hc z)
        · rename_i hq; cases h; have hc := fun z => hq (decide_eq_true z); exact lv_if_le hx hb hd (x_jmp q1) (fun z => absurd z hc) (fun _ => k)
    · cases h
  · obtain rfl : n = 3 := by rcases hn with q | q; cases q; exact q
    rename_i q off y x r
    split at h
    · rename_i t q1
      cases q
      · split at h
        · rename_i hq; cases h; have hc := of_decide_eq_true hq; exact lv_icmp_eq hx hb hd (x_jmp q1) (fun _ => k) (fun z => absurd hc z)
        · rename_i hq; cases h; have hc := fun z => hq (decide_eq_true z); exact lv_icmp_eq hx hb hd (x_jmp q1) (fun z => absurd z hc) (fun _ => k)
      · split at h
        · rename_i hq; cases h; have hc := of_decide_eq_true hq; exact lv_icmp_ne hx hb hd (x_jmp q1) (fun _ => k) (fun z => absurd z hc)
        · rename_i hq; cases h; have hc : x = y := Decidable.not_not.mp (fun z => hq (decide_eq_true z)); exact lv_icmp_ne hx hb hd (x_jmp q1) (fun z => absurd hc z) (fun _ => k)
      · split at h
        · rename_i hq; cases h; have hc := of_decide_eq_true hq; exact lv_icmp_lt hx hb hd (x_jmp q1) (fun _ => k) (fun z => absurd hc z)
        · rename_i hq; cases h; have hc := fun z => hq (decide_eq_true z); exact lv_icmp_lt hx hb hd (x_jmp q1) (fun z => absurd z hc) (fun _ => k)
      · split at h
        · rename_i hq; cases h; have hc := of_decide_eq_true hq; exact lv_icmp_ge hx hb hd (x_jmp q1) (fun _ => k) (fun z => absurd hc z)
        · rename_i hq; cases h; have hc := fun z => hq (decide_eq_true z); exact lv_icmp_ge hx hb hd (x_jmp q1) (fun z => absurd z hc) (fun _ => k)
      · split at h
        · rename_i hq; cases h; have hc := of_decide_eq_true hq; exact lv_icmp_gt hx hb hd (x_jmp q1) (fun _ => k) (fun z => absurd hc z)
        · rename_i hq; cases h; have hc := fun z => hq (decide_eq_true z); exact lv_icmp_gt hx hb hd (x_jmp q1) (fun z => absurd z hc) (fun _ => k)
      · split at h
        · rename_i hq; cases h; have hc := of_decide_eq_true hq; exact lv_icmp_le hx hb hd (x_jmp q1) (fun _ => k) (fun z => absurd hc z)
        · rename_i hq; cases h; have hc := fun z => hq (decide_eq_true z); exact lv_icmp_le hx hb hd (x_jmp q1) (fun z => absurd z hc) (fun _ => k)
    · cases h
  · split at h
    · rename_i q
      obtain ⟨t, h1, h2⟩ := Option.map_eq_some_iff.mp h
      cases h2
      exact lv_tableOut hx hb hd q (x_jmp h1) k
    · rename_i q
      split at h
      · rename_i off q2
        obtain ⟨t, h1, h2⟩ := Option.map_eq_some_iff.mp h
        cases h2
        exact lv_tableIn hx hb hd (fun z => q (Or.inl z)) (fun z => q (Or.inr z)) q2 (x_jmp h1) k
      · cases h
  · split at h
    · rename_i q
      obtain ⟨t, h1, h2⟩ := Option.map_eq_some_iff.mp h
      cases h2
      exact lv_lookup hx hb hd q rfl (x_jmp h1) k
    · cases h
  · cases h
end XS
