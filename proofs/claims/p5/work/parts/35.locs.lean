/-! what a run does depends on its locals by what stands in them alone -/
def xNd (L : xL) : Prop := (L.map (fun q => q.1)).Nodup
def xLs (L' L : xL) : Prop := ∀ k v, L'.lookup k = some v → L.lookup k = some v
theorem xlk_mem {L : xL} {k : Nat} {v : Value} (hd : xNd L) (h : (k, v) ∈ L) : L.lookup k = some v := by
  induction L with
  | nil => cases h
  | cons q r ih =>
    obtain ⟨j, w⟩ := q
    rw [List.lookup_cons]
    have hd' := List.nodup_cons.mp hd
    rcases List.mem_cons.mp h with z | z
    · cases z
      simp
    · have hne : ¬ k = j := fun e => hd'.1 (by subst e; exact List.mem_map.mpr ⟨(k, v), z, rfl⟩)
      rw [show (k == j) = false by simpa using hne]
      exact ih hd'.2 z
theorem xlk_filter {L : xL} {f : Nat × Value → Bool} {k : Nat} {v : Value} (hd : xNd L) : (L.filter f).lookup k = some v ↔ L.lookup k = some v ∧ f (k, v) = true := by
  have hd2 : xNd (L.filter f) := List.Nodup.sublist (List.Sublist.map _ List.filter_sublist) hd
  constructor
  · intro h
    have h1 := List.mem_filter.mp (x_lookg h)
    exact ⟨xlk_mem hd h1.1, h1.2⟩
  · intro h
    exact xlk_mem hd2 (List.mem_filter.mpr ⟨x_lookg h.1, h.2⟩)
theorem xNd_cons {L : xL} {f : Nat × Value → Bool} {i : Nat} {v : Value} (hd : xNd L) (hf : ∀ w, f (i, w) = false) : xNd ((i, v) :: L.filter f) := by
  refine List.nodup_cons.mpr ⟨?_, List.Nodup.sublist (List.Sublist.map _ List.filter_sublist) hd⟩
  intro h
  obtain ⟨⟨a, w⟩, h1, h2⟩ := List.mem_map.mp h
  have h2 : a = i := h2
  subst h2
  have := (List.mem_filter.mp h1).2
  rw [hf] at this
  cases this
theorem xLs_cons {L' L : xL} {f : Nat × Value → Bool} {i : Nat} {v : Value} (hd' : xNd L') (hd : xNd L) (h : xLs L' L) : xLs ((i, v) :: L'.filter f) ((i, v) :: L.filter f) := by
  intro k w hk
  rw [List.lookup_cons] at hk ⊢
  cases hki : (k == i) with
  | true => rw [hki] at hk; exact hk
  | false =>
    rw [hki] at hk
    have hk := (xlk_filter hd').mp hk
    exact (xlk_filter hd).mpr ⟨h _ _ hk.1, hk.2⟩
theorem xst1_Nd {L : xL} {i : Nat} {v : Value} (hd : xNd L) : xNd (xst1 L i v) := xNd_cons hd (fun w => by simp)
theorem xst2_Nd {L : xL} {i : Nat} {v : Value} (hd : xNd L) : xNd (xst2 L i v) := xNd_cons hd (fun w => by simp)
theorem xs2_locs {con : Nat → Option Value} {str : Nat → Option Nat} {nL : Nat} {i : Instr} {L' L : xL} {st : List Value} {r : xL × List Value} (hd' : xNd L') (hd : xNd L) (hs : xLs L' L) (h : xs2 con str nL i L' st = some r) : ∃ L1, xs2 con str nL i L st = some (L1, r.2) ∧ xNd r.1 ∧ xNd L1 ∧ xLs r.1 L1 := by
  unfold xs2 at h ⊢
  split at h
  · cases h; exact ⟨_, rfl, hd', hd, hs⟩
  · cases h; exact ⟨_, rfl, hd', hd, hs⟩
  · cases h; exact ⟨_, rfl, hd', hd, hs⟩
  · cases h; exact ⟨_, rfl, hd', hd, hs⟩
  · cases h; exact ⟨_, rfl, hd', hd, hs⟩
  · try dsimp only
    split at h
    · rename_i q; (try rw [q]); cases h; exact ⟨_, rfl, hd', hd, hs⟩
    · cases h
    · rename_i q
      (try rw [q])
      try dsimp only
      split at h
      · rename_i q; (try rw [q]); cases h; exact ⟨_, rfl, hd', hd, hs⟩
      · cases h
  · try dsimp only
    split at h
    · rename_i q; (try rw [q]); cases h; exact ⟨_, rfl, hd', hd, hs⟩
    · cases h
  · try dsimp only
    split at h
    · rename_i q; rw [hs _ _ q]; cases h; exact ⟨_, rfl, hd', hd, hs⟩
    · cases h
  · try dsimp only
    split at h
    · rename_i q; rw [hs _ _ q]; cases h; exact ⟨_, rfl, hd', hd, hs⟩
    · cases h
  · try dsimp only
    split at h
    · rename_i q; rw [hs _ _ q]; cases h; exact ⟨_, rfl, hd', hd, hs⟩
    · cases h
  · try dsimp only
    split at h
    · rename_i q; rw [hs _ _ q]; cases h; exact ⟨_, rfl, hd', hd, hs⟩
    · cases h
  · try dsimp only
    split at h
    · rename_i q; rw [hs _ _ q]; cases h; exact ⟨_, rfl, hd', hd, hs⟩
    · rename_i q
      rw [hs _ _ q]
      try dsimp only
      split at h
      · cases h
      · rename_i q2; rw [if_neg q2]; cases h; exact ⟨_, rfl, hd', hd, hs⟩
    · rename_i q; rw [hs _ _ q]; cases h; exact ⟨_, rfl, hd', hd, hs⟩
    · cases h
  · try dsimp only
    split at h
    · rename_i q; rw [hs _ _ q]; cases h; exact ⟨_, rfl, hd', hd, hs⟩
    · rename_i q
      rw [hs _ _ q]
      try dsimp only
      split at h
      · cases h
      · rename_i q2; rw [if_neg q2]; cases h; exact ⟨_, rfl, hd', hd, hs⟩
    · rename_i q; rw [hs _ _ q]; cases h; exact ⟨_, rfl, hd', hd, hs⟩
    · cases h
  · try dsimp only
    split at h
    · split at h
      · rename_i q; (try dsimp only); rw [if_pos q]; cases h; exact ⟨_, rfl, xst1_Nd hd', xst1_Nd hd, xLs_cons hd' hd hs⟩
      · cases h
    · cases h
  · try dsimp only
    split at h
    · split at h
      · rename_i q; (try dsimp only); rw [if_pos q]; cases h; exact ⟨_, rfl, xst1_Nd hd', xst1_Nd hd, xLs_cons hd' hd hs⟩
      · cases h
    · cases h
  · try dsimp only
    split at h
    · split at h
      · rename_i q; (try dsimp only); rw [if_pos q]; cases h; exact ⟨_, rfl, xst2_Nd hd', xst2_Nd hd, xLs_cons hd' hd hs⟩
      · cases h
    · cases h
  · try dsimp only
    split at h
    · split at h
      · rename_i q; (try dsimp only); rw [if_pos q]; cases h; exact ⟨_, rfl, xst2_Nd hd', xst2_Nd hd, xLs_cons hd' hd hs⟩
      · cases h
    · cases h
  · try dsimp only
    split at h
    · split at h
      · rename_i q; (try dsimp only); rw [if_pos q]; cases h; exact ⟨_, rfl, xst1_Nd hd', xst1_Nd hd, xLs_cons hd' hd hs⟩
      · cases h
    · split at h
      · rename_i q; (try dsimp only); rw [if_pos q]; cases h; exact ⟨_, rfl, xst1_Nd hd', xst1_Nd hd, xLs_cons hd' hd hs⟩
      · cases h
    · cases h
  · try dsimp only
    split at h
    · split at h
      · rename_i q; (try dsimp only); rw [if_pos q]; cases h; exact ⟨_, rfl, xst1_Nd hd', xst1_Nd hd, xLs_cons hd' hd hs⟩
      · cases h
    · split at h
      · rename_i q; (try dsimp only); rw [if_pos q]; cases h; exact ⟨_, rfl, xst1_Nd hd', xst1_Nd hd, xLs_cons hd' hd hs⟩
      · cases h
    · cases h
  · try dsimp only
    split at h
    · rename_i q
      rw [hs _ _ q]
      try dsimp only
      split at h
      · rename_i q; rw [if_pos q]; cases h; exact ⟨_, rfl, xst1_Nd hd', xst1_Nd hd, xLs_cons hd' hd hs⟩
      · cases h
    · cases h
  · cases h
section XLC
variable {G : xG} {sc : xS}
set_option maxHeartbeats 4000000 in
theorem xev_locs : ∀ (n d M pc : Nat) (L' L : xL) (st : List Value) (h : xH) (r : xR), xNd L' → xNd L → xLs L' L → xev G sc n d M pc L' st h = some r → xev G sc n d M pc L st h = some r := by
  intro n
  induction n with
  | zero =>
    intro d M pc L' L st h r _ _ _ hr
    cases hr
  | succ n ih =>
    intro d M pc L' L st h r n1 n2 hs0 hr
    rw [xev] at hr
    rw [xev]
    split at hr
    · cases hr
    · rename_i i hi
      split at hr
      · rename_i hs
        split at hr
        · rename_i st' q
          try simp only [hs, q]
          exact ih _ _ _ _ _ _ _ _ n1 n2 hs0 hr
        · cases hr
      · rename_i hs
        split at hr
        · rename_i st' q
          try simp only [hs, q]
          exact ih _ _ _ _ _ _ _ _ n1 n2 hs0 hr
        · cases hr
      · rename_i hs
        split at hr
        · rename_i L1 st' q
          obtain ⟨L2, q1, q2, q3, q4⟩ := xs2_locs n1 n2 hs0 q
          try simp only [hs, q1]
          exact ih _ _ _ _ _ _ _ _ q2 q3 q4 hr
        · cases hr
      · rename_i hs
        split at hr
        · rename_i pc' st' q
          try simp only [hs, q]
          exact ih _ _ _ _ _ _ _ _ n1 n2 hs0 hr
        · cases hr
      · rename_i hs
        split at hr
        · rename_i st' h' q
          try simp only [hs, q]
          exact ih _ _ _ _ _ _ _ _ n1 n2 hs0 hr
        · cases hr
      · rename_i hs
        try simp only [hs]
        exact hr
      · rename_i hs
        try simp only [hs]
        split at hr
        · split at hr
          · rename_i ci q
            obtain ⟨v, h', a1, a2, e1, rfl⟩ := xadd_some hr
            try simp only [q, ih _ _ _ _ _ _ _ _ n1 n2 hs0 e1]
            rfl
          · cases hr
        · cases hr
      · rename_i hs
        try simp only [hs]
        split at hr
        · split at hr
          · cases hr
          · rename_i q0
            split at hr
            · rename_i c0 qn
              obtain ⟨v, h', a1, a2, e1, rfl⟩ := xadd_some hr
              try simp only [q0, if_false, qn, ih _ _ _ _ _ _ _ _ n1 n2 hs0 e1]
              rfl
            · cases hr
        · cases hr
      · rename_i hs
        try simp only [hs]
        split at hr
        · rename_i d' kind N k ci qk
          try simp only [qk]
          split at hr
          · split at hr
            · split at hr
              · cases hr
              · rename_i q8
                try simp only [q8, if_false]
                exact ih _ _ _ _ _ _ _ _ n1 n2 hs0 hr
            · cases hr
          · split at hr
            · rename_i st' h' q
              try simp only [q]
              exact ih _ _ _ _ _ _ _ _ n1 n2 hs0 hr
            · cases hr
          · split at hr
            · split at hr
              · cases hr
              · rename_i q8
                try simp only [q8, if_false]
                exact ih _ _ _ _ _ _ _ _ n1 n2 hs0 hr
            · cases hr
          · split at hr
            · split at hr
              · cases hr
              · rename_i q8
                try simp only [q8, if_false]
                exact ih _ _ _ _ _ _ _ _ n1 n2 hs0 hr
            · cases hr
          · split at hr
            · cases hr
            · rename_i q0
              split at hr
              · rename_i v h' a1 a2 qe
                obtain ⟨v2, h2, b1, b2, e2, rfl⟩ := xadd_some hr
                try simp only [q0, if_false, qe, ih _ _ _ _ _ _ _ _ n1 n2 hs0 e2]
                rfl
              · cases hr
        · cases hr
      · cases hr
/-- the same run from other locals that hold as much -/
def xLsub : xL → xL → Prop
  | [], _ => True
  | (k, v) :: r, L => L.lookup k = some v ∧ xLsub r L
theorem xLsub_ok {L' L : xL} (h : xLsub L' L) : xLs L' L := by
  induction L' with
  | nil => intro k v hk; cases hk
  | cons q r ih =>
    obtain ⟨j, w⟩ := q
    intro k v hk
    rw [List.lookup_cons] at hk
    cases hki : (k == j) with
    | true => rw [hki] at hk; cases hk; rw [beq_iff_eq.mp hki]; exact h.1
    | false => rw [hki] at hk; exact ih h.2 k v hk
theorem tLc {d M pc : Nat} {L : xL} {st : List Value} {h : xH} {Q : xR → Prop} (L' : xL) (n1 : xNd L') (n2 : xNd L) (hs : xLsub L' L) (k : xT G sc d M pc L' st h Q) : xT G sc d M pc L st h Q := by
  obtain ⟨n, r, h1, h2⟩ := k
  exact ⟨n, r, xev_locs n d M pc L' L st h r n1 n2 (xLsub_ok hs) h1, h2⟩
end XLC
