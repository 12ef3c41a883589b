theorem xcl_inst {ci : Nat} {C : String} {T : u_T} {N : Nat} (hc : vwCl[ci]? = some (C, T, N)) : Cond.instantiable C N ∈ xTs := by
  have hl : ci < 8 := by
    have := (List.getElem?_eq_some_iff.mp hc).1
    simpa using this
  obtain ⟨d, hd⟩ : ∃ d, xdf[ci]? = some d := ⟨_, List.getElem?_eq_getElem (by simpa [xdf] using hl)⟩
  have h2 := xzip (f := xclD) xclD_all hc hd
  simp only [xclD, Bool.and_eq_true, decide_eq_true_eq] at h2
  obtain ⟨⟨⟨⟨⟨⟨a1, a2⟩, a3⟩, a4⟩, a5⟩, a6⟩, a7⟩ := h2
  exact List.mem_filter.mpr ⟨a1, a2⟩
def xdA (cI cJ cB cZ : ClassId) : FieldType → ClassId
  | .int => cI
  | .long => cJ
  | .byte => cB
  | .boolean => cZ
  | _ => 0
/-- what is known of the classes at the law's entry -/
theorem x_known {s : State} {args : Array Value} (hts : ∀ w ∈ xTs, w.before args s = true) : ∃ (D : va_G) (dA : FieldType → ClassId), va_K D vwCl (xtys dA) s := by
  have hk : ∀ k : Nat, ∃ q : ClassId × (Nat → Nat), ∀ r, vwCl[k]? = some r → u_Kn s r.1 r.2.1 r.2.2 q.1 q.2 := by
    intro k
    cases h : vwCl[k]? with
    | none => exact ⟨(0, fun _ => 0), fun q hq => by cases hq⟩
    | some q =>
      obtain ⟨C, T, N⟩ := q
      obtain ⟨c, iS, hK⟩ := u_known (C := C) (T := T) (N := N) (n := N) hts (xcl_ws h) (hts _ (xcl_inst h))
      exact ⟨(c, iS), fun q hq => by cases hq; exact hK⟩
  obtain ⟨w1, w2, w3, w4⟩ := xok_arr
  obtain ⟨cI, kI, pI, fI, gI, eI⟩ := Cond.arrayClass_spec (hts _ w1)
  obtain ⟨cJ, kJ, pJ, fJ, gJ, eJ⟩ := Cond.arrayClass_spec (hts _ w2)
  obtain ⟨cB, kB, pB, fB, gB, eB⟩ := Cond.arrayClass_spec (hts _ w3)
  obtain ⟨cZ, kZ, pZ, fZ, gZ, eZ⟩ := Cond.arrayClass_spec (hts _ w4)
  refine ⟨(fun k => (Classical.choose (hk k)).1, fun k => (Classical.choose (hk k)).2), xdA cI cJ cB cZ, fun c q hq => Classical.choose_spec (hk c) q hq, fun k q hq => ?_⟩
  match k, hq with
  | 0, hq => cases hq; exact ⟨fun n z => ⟨fun k h => (by cases h), kI, gI, pI, eI⟩, fI⟩
  | 1, hq => cases hq; exact ⟨fun n z => ⟨fun k h => (by cases h), kJ, gJ, pJ, eJ⟩, fJ⟩
  | 2, hq => cases hq; exact ⟨fun n z => ⟨fun k h => (by cases h), kB, gB, pB, eB⟩, fB⟩
  | 3, hq => cases hq; exact ⟨fun n z => ⟨fun k h => (by cases h), kZ, gZ, pZ, eZ⟩, fZ⟩
  | k + 4, hq => simp [xtys] at hq
theorem x_nest {s : State} {args : Array Value} {xa : Nat → Nat} (hts : ∀ w ∈ lw_tbl, w.before args s = true) (h : ∀ q ∈ xnest.1, Cond.methodLinkNest q.1 q.2.1 q.2.2.1 q.2.2.2 ∈ lw_tbl) (hr : ∀ q ∈ xrs, vk_R q.1 q.2.1 q.2.2.1 (xa (2 * q.2.2.2 + 1)) s) : xN xnest xa s := ⟨fun q hq => va_Nw.of rfl (hts _ (h q hq)), hr⟩
set_option maxHeartbeats 4000000 in
/-- THE LAW, out of a run of the evaluator -/
theorem x_law {p : Program} {e : Env} {s : State} {m : MethodId} {below : List Frame} {meth : Method} {c : Code} (l : Launch) {b L : Nat} {xs : Nat → Int32} (C0 : lw_At p s m meth c b L xs) (hnest : ∀ q ∈ xnest.1, Cond.methodLinkNest q.1 q.2.1 q.2.2.1 q.2.2.2 ∈ lw_tbl)
    (hrun : xT xg (L, xs) 1300 0 0 [(0, .retAddr 0)] [] [] (fun r => r.1 = some (.int 1) ∧ r.2.2.1 ≤ 600000 ∧ r.2.2.2 ≤ 7302250)) : W p l e room_1 s m #[Value.ref b] below meth c s.heap [] 0 0 (lw_Z below #[Value.ref b] s) (entryFrame m ([Value.ref b] : List Value).toArray 4) := by
  obtain ⟨hx, hb, hr, hml, hown, hts, hX, hbl, hlocks, hgv⟩ := id C0
  have hts' : ∀ w ∈ xTs, w.before #[Value.ref b] s = true := fun w hw => hts w (List.mem_filter.mp hw).1
  obtain ⟨D, dA, hK⟩ := x_known hts'
  obtain ⟨xa, hxa, hEx, hrs⟩ := x_entry hts (flat_of_before _ hgv) hX
  obtain ⟨n, ⟨v, h', a1, a2⟩, hev, e1, e2, e3⟩ := hrun
  have e1 : v = some (.int 1) := e1
  have e2 : a1 ≤ 600000 := e2
  have e3 : a2 ≤ 7302250 := e3
  subst e1
  have hle := lv_entry ([Value.ref b]) (n := 4) (Nat.le_of_ble_eq_true rfl)
  rw [lg_entry_eq]
  refine x_sound (D := D) (dA := dA) (base := s.heap.size) (xa := xa) (sc := (L, xs)) (l := l) xg_ok xg_okm n 1300 0 0 [(0, .retAddr 0)] [] [] _ hev p e s m _ below meth c room_1 s.heap [] 0 0 _ _ ⟨hx, hb, hml, hown, hts', hK, fun z => by exact absurd z (by decide +kernel), by rw [hxa]; exact hbl, x_nest hts hnest hrs⟩ rfl ⟨rfl, fun k q hq => by simp [xw] at hq⟩ hEx (fun q hq => by cases hq) (by subst hxa; exact hle) (by show 0 + a1 ≤ 600000; omega) (by show 0 + a2 ≤ 7302250; omega) (Nat.le_of_ble_eq_true rfl) (Nat.le_of_ble_eq_true rfl) ?_
  intro pc' ls' i H' locs' hd hv hsz hw' hX' hlc
  have hi : i = .ireturn := by
    unfold xret at hv
    split at hv
    · rename_i z; cases z
    · rfl
    · rename_i z; cases z
    · rename_i z; cases z
    · cases hv
  subst hi
  refine va_forget (fun q hq => hlc q hq) ?_
  refine W.widen (k := 600000) (n := 7302250) (by show 0 + a1 ≤ 600000; omega) (by show 0 + a2 ≤ 7302250; omega) ?_
  exact lw_ret hx hb hr hlocks hd
