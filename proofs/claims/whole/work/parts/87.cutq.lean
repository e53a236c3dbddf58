/-! groups laid, and given rods, of the reference -/
section CUQ
variable {E : gw_N} {N : NM} {P : Pic} {n : Int} {ln p : Int → Int}
theorem sp302 (hn : 1 ≤ n ∧ n ≤ 8) (hp : rgs n p) (h40 : N 59 40 = n) (h86 : ∀ k, 0 ≤ k → k < n → N 86 k = ln k) (h87 : ∀ k, 0 ≤ k → k < n → N 87 k = p k) :
    ∃ f, Rn 302 [.ref 59] (hs E (jm N)) (some (.int (J (mxZ p n + 1)))) (hs E (jm (upZ N 88 f))) ∧ ∀ i, 0 ≤ i → i < 8 → f i = sgP n ln p i := by
  have two := loopZ (a := 0) (n := n) (Q := fun k => ∀ g : Int → Int, (∀ i, 0 ≤ i → i < 8 → g i = smP k ln (fun w => p w = i)) → ∃ f, (∀ i, 0 ≤ i → i < 8 → f i = sgP n ln p i) ∧ Ev 1 302 25 [some (.ref 59), some (.int (J ((if k = 0 then 0 else mxZ p k + 1)))), some (.int (J k))] [] (hs E (jm (upZ N 88 g))) (some (.int (J (mxZ p n + 1))), hs E (jm (upZ N 88 f)))) (by omega) ?_ ?_
  · have one := loopZ (a := 0) (n := 8) (Q := fun k => ∀ g : Int → Int, (∀ i, 0 ≤ i → i < k → g i = 0) → ∃ f, (∀ i, 0 ≤ i → i < 8 → f i = sgP n ln p i) ∧ Ev 1 302 4 [some (.ref 59), some (.int (J 0)), some (.int (J k))] [] (hs E (jm (upZ N 88 g))) (some (.int (J (mxZ p n + 1))), hs E (jm (upZ N 88 f)))) (by decide) ?_ ?_
    · obtain ⟨f, f1, f2⟩ := one (N 88) (fun i a b => by omega)
      rw [upZ_id] at f2
      exact ⟨f, c302 (v302_0 f2), f1⟩
    · intro g hg
      obtain ⟨f, f1, f2⟩ := two g (fun i a b => by rw [hg i a b]; rfl)
      rw [if_pos rfl] at f2
      exact ⟨f, f1, v302_4 ⟨by decide, fun _ => f2, fun z => absurd (by decide) z⟩⟩
    · intro k k1 k2 ih g hg
      obtain ⟨f, f1, f2⟩ := ih (updZ g k 0) (fun i a b => by
        by_cases q : i = k
        · rw [q, updZ_s]
        · rw [updZ_n q]; exact hg i a (by omega))
      refine ⟨f, f1, v302_4 ?_⟩
      rw [upZ_s, upZ_up]
      exact ⟨by omega, fun z => absurd z (by omega), fun _ => ⟨by omega, f2⟩⟩
  · intro g hg
    refine ⟨g, hg, v302_25 ?_⟩
    rw [show (upZ N 88 g) 59 40 = n from h40, if_neg (by omega)]
    exact ⟨by omega, by omega, fun _ => rfl, fun z => absurd (Int.le_refl _) z⟩
  · intro k k1 k2 ih g hg
    have pk := rgs_dig hn.2 hp k k1 k2
    have pb := rgs_bd hp k k1 k2
    have hmn := mx_nn (p := p) k1
    have hmk : k ≠ 0 → mxZ p k ≤ k - 1 := fun z => by
      have := (rgs_bd hp (k - 1) (by omega) (by omega)).2
      rwa [show k - 1 + 1 = k by omega] at this
    obtain ⟨f, f1, f2⟩ := ih (updZ g (p k) (g (p k) + ln k)) (fun i a b => by
      show _ = sumZ (k + 1) _
      rw [sumZ_succ k1]
      by_cases q : i = p k
      · rw [q, updZ_s, hg (p k) (by omega) (by omega), bZ_t rfl, Int.one_mul]
        rfl
      · rw [updZ_n q, hg i a b, bZ_f (fun z => q z.symm), Int.zero_mul, Int.add_zero]
        rfl)
    refine ⟨f, f1, v302_25 ?_⟩
    rw [if_neg (by omega), mxZ_s k1] at f2
    rw [show (upZ N 88 g) 59 40 = n from h40, show (upZ N 88 g) 87 k = p k from h87 k k1 k2, show (upZ N 88 g) 86 k = ln k from h86 k k1 k2, upZ_s, upZ_up]
    by_cases q : k = 0
    · have p0 := hp.2.1 (by omega)
      rw [if_pos q]
      rw [q] at f2 pk pb ⊢
      rw [mxZ_0, p0] at f2
      rw [p0]
      exact ⟨by omega, by omega, fun z => by omega, fun _ => ⟨by omega, by omega, by omega, by omega, fun z => by omega, fun _ => f2⟩⟩
    · have hm := hmk q
      rw [if_neg q]
      refine ⟨by omega, by omega, fun z => by omega, fun _ => ⟨by omega, by omega, by omega, by omega, fun z => ?_, fun z => ?_⟩⟩
      · rw [show max (mxZ p k) (p k) = mxZ p k by omega] at f2
        exact f2
      · rw [show max (mxZ p k) (p k) = p k by omega] at f2
        exact f2
theorem sp303 {G K : Int} {sg rl rm : Int → Int} (hG : 0 ≤ G ∧ G ≤ 8) (hK : 0 ≤ K ∧ K ≤ 8) (hrl : ∀ k, 0 ≤ k → k < K → 1 ≤ rl k ∧ rl k ≤ 99) (hrm : ∀ k, 0 ≤ k → k < K → 0 ≤ rm k ∧ rm k ≤ 20) (hsg : ∀ i, 0 ≤ i → i < 8 → 0 ≤ sg i ∧ sg i ≤ 192) (h88 : ∀ i, 0 ≤ i → i < 8 → N 88 i = sg i) (h36 : N 59 36 = K) (h84 : ∀ k, 0 ≤ k → k < K → N 84 k = rl k) (h85 : ∀ k, 0 ≤ k → k < K → N 85 k = rm k) :
    ∃ r f, Rn 303 [.ref 59, .int (J G)] (hs E (jm N)) (some (.int (J r))) (hs E (jm (upZ N 89 f))) ∧ bst G K sg rl (fun _ => True) rm r := by
  have turn : ∀ d : Nat, ∀ (t all gv : Int) (left : Int → Int), (0 ≤ t ∧ t + d = G) → (0 ≤ gv ∧ gv < 256) → (0 ≤ all ∧ all ≤ 99 * t) → (∀ k, 0 ≤ k → k < K → 0 ≤ left k ∧ left k ≤ 20) → sumZ G (fun i => bZ (bitZ gv i = 0)) = d → ∃ r f, bst G K sg rl (fun i => bitZ gv i = 0) left r ∧ Ev 1 303 35 [some (.ref 59), some (.int (J G)), some (.int (J all)), some (.int (J gv)), some (.int (J t)), none, none, none, none] [] (hs E (jm (upZ N 89 left))) (some (.int (J (if r = -1 then -1 else all + r))), hs E (jm (upZ N 89 f))) := by
    intro d
    induction d with
    | zero =>
      intro t all gv left ht hgv hall hleft hcnt
      refine ⟨0, left, bst_end hG.1 (fun k a b => (hleft k a b).1) (fun i a b z => ?_), v303_35 ⟨by omega, by omega, fun _ => ?_, fun z => absurd (by omega) z⟩⟩
      · have h1 := sumZ_ge (g := fun i => bZ (bitZ gv i = 0)) (n := G) (k := i) (fun _ _ _ => bZ_bd.1) ⟨a, b⟩
        have h2 : bZ (bitZ gv i = 0) ≤ sumZ G (fun i => bZ (bitZ gv i = 0)) := h1
        rw [bZ_t z] at h2
        omega
      · rw [if_neg (by decide), Int.add_zero]
    | succ d ih =>
      intro t all gv left ht hgv hall hleft hcnt
      have e88 : ∀ i, 0 ≤ i → i < 8 → (upZ N 89 left) 88 i = sg i := h88
      have e84 : ∀ k, 0 ≤ k → k < K → (upZ N 89 left) 84 k = rl k := h84
      have e36 : (upZ N 89 left) 59 36 = K := h36
      -- the longest of those that have none
      have sel := loopZ (a := 0) (n := G) (Q := fun i => ∀ g, ((g = -1 ∧ ∀ j, 0 ≤ j → j < i → ¬ bitZ gv j = 0) ∨ ((0 ≤ g ∧ g < i) ∧ bitZ gv g = 0 ∧ ∀ j, 0 ≤ j → j < i → bitZ gv j = 0 → sg j ≤ sg g)) → ∃ g', ((g' = -1 ∧ ∀ j, 0 ≤ j → j < G → ¬ bitZ gv j = 0) ∨ ((0 ≤ g' ∧ g' < G) ∧ bitZ gv g' = 0 ∧ ∀ j, 0 ≤ j → j < G → bitZ gv j = 0 → sg j ≤ sg g')) ∧ ∀ res, Ev 1 303 113 [some (.ref 59), some (.int (J G)), some (.int (J all)), some (.int (J (zor gv (zshl 1 g')))), some (.int (J t)), some (.int (J (g'))), some (.int (J ((-1)))), some (.int (J 0)), none] [] (hs E (jm (upZ N 89 left))) res → Ev 1 303 47 [some (.ref 59), some (.int (J G)), some (.int (J all)), some (.int (J gv)), some (.int (J t)), some (.int (J g)), some (.int (J i)), none, none] [] (hs E (jm (upZ N 89 left))) res) hG.1 ?_ ?_
      · obtain ⟨g, hg, hgo⟩ := sel (-1) (Or.inl ⟨rfl, fun j a b => by omega⟩)
        have hg' : (0 ≤ g ∧ g < G) ∧ bitZ gv g = 0 ∧ ∀ j, 0 ≤ j → j < G → bitZ gv j = 0 → sg j ≤ sg g := by
          rcases hg with hg | hg
          · obtain ⟨j, j1, j2, j3⟩ := sumZ_pos (g := fun i => bZ (bitZ gv i = 0)) (n := G) (by omega)
            exact absurd (bZ_f (hg.2 j j1 j2)) j3
          · exact hg
        obtain ⟨g1, g2, g3⟩ := hg'
        have sb := hsg g g1.1 (by omega)
        -- the shortest rod for it
        have kin := loopZ (a := 0) (n := K) (Q := fun k => ∀ b, ((b = -1 ∧ ∀ j, 0 ≤ j → j < k → 0 < left j → ¬ sg g ≤ rl j) ∨ ((0 ≤ b ∧ b < k) ∧ 0 < left b ∧ sg g ≤ rl b ∧ ∀ j, 0 ≤ j → j < k → 0 < left j → sg g ≤ rl j → rl b ≤ rl j)) → ∃ b', ((b' = -1 ∧ ∀ j, 0 ≤ j → j < K → 0 < left j → ¬ sg g ≤ rl j) ∨ ((0 ≤ b' ∧ b' < K) ∧ 0 < left b' ∧ sg g ≤ rl b' ∧ ∀ j, 0 ≤ j → j < K → 0 < left j → sg g ≤ rl j → rl b' ≤ rl j)) ∧ ∀ res, Ev 1 303 113 [some (.ref 59), some (.int (J G)), some (.int (J all)), some (.int (J (zor gv (zshl 1 g)))), some (.int (J t)), some (.int (J g)), some (.int (J (b'))), some (.int (J K)), none] [] (hs E (jm (upZ N 89 left))) res → Ev 1 303 113 [some (.ref 59), some (.int (J G)), some (.int (J all)), some (.int (J (zor gv (zshl 1 g)))), some (.int (J t)), some (.int (J g)), some (.int (J b)), some (.int (J k)), none] [] (hs E (jm (upZ N 89 left))) res) hK.1 (fun b hb => ⟨b, hb, fun _ h => h⟩) ?_
        · obtain ⟨b, hb, hbo⟩ := kin (-1) (Or.inl ⟨rfl, fun j a b => by omega⟩)
          have st : ∀ res, Ev 1 303 113 [some (.ref 59), some (.int (J G)), some (.int (J all)), some (.int (J (zor gv (zshl 1 g)))), some (.int (J t)), some (.int (J g)), some (.int (J b)), some (.int (J K)), none] [] (hs E (jm (upZ N 89 left))) res → Ev 1 303 35 [some (.ref 59), some (.int (J G)), some (.int (J all)), some (.int (J gv)), some (.int (J t)), none, none, none, none] [] (hs E (jm (upZ N 89 left))) res := fun res h => v303_35 ⟨by omega, by omega, fun z => by omega, fun _ => hgo res (hbo res h)⟩
          rcases hb with ⟨b1, b2⟩ | ⟨b1, b2, b3, b4⟩
          · refine ⟨-1, left, bst_none g1 g2 b2, st _ (v303_113 ?_)⟩
            rw [e36, b1, if_pos rfl]
            exact ⟨by omega, by omega, fun _ => ⟨by decide, fun _ => rfl, fun z => absurd rfl z⟩, fun z => absurd (Int.le_refl _) z⟩
          · have rb := hrl b b1.1 b1.2
            have lb := hleft b b1.1 b1.2
            obtain ⟨z1, z2⟩ := zset hgv (b := g) ⟨g1.1, by omega⟩
            have hc2 : sumZ G (fun i => bZ (bitZ (zor gv (zshl 1 g)) i = 0)) = d := by
              have e : sumZ G (fun i => bZ (bitZ (zor gv (zshl 1 g)) i = 0)) = sumZ G (updZ (fun i => bZ (bitZ gv i = 0)) g 0) := by
                refine sumZ_congr fun i a c => ?_
                rw [z2 i a (by omega)]
                by_cases q : i = g
                · rw [if_pos q, q, updZ_s, bZ_f (by decide)]
                · rw [if_neg q, updZ_n q]
              rw [e, sumZ_upd g1, bZ_t g2, hcnt]
              omega
            obtain ⟨r, f, k1, k2⟩ := ih (t + 1) (all + rl b) (zor gv (zshl 1 g)) (updZ left b (left b - 1)) (by omega) z1 (by omega) (fun k a c => by
              have := hleft k a c
              by_cases q : k = b
              · rw [q, updZ_s]; omega
              · rw [updZ_n q]; exact this) hc2
            have k1' : bst G K sg rl (fun i => bitZ gv i = 0 ∧ ¬ i = g) (updZ left b (left b - 1)) r := bst_congr (fun i a c => by
              rw [z2 i a (by omega)]
              by_cases q : i = g
              · rw [if_pos q]; exact ⟨fun z => absurd z (by decide), fun z => absurd q z.2⟩
              · rw [if_neg q]; exact ⟨fun z => ⟨z, q⟩, fun z => z.1⟩) k1
            have hr : r = -1 ∨ 0 ≤ r := k1.elim (fun z => Or.inl z.1) (fun z => Or.inr z.1)
            refine ⟨_, f, bst_step g1 g2 g3 b1 b2 b3 (by omega) b4 k1', st _ (v303_113 ?_)⟩
            have ev : (if (if r = -1 then -1 else rl b + r) = -1 then (-1 : Int) else all + (if r = -1 then -1 else rl b + r)) = if r = -1 then -1 else all + rl b + r := by
              rcases hr with q | q
              · rw [if_pos q, if_pos rfl, if_pos q]
              · rw [if_neg (by omega), if_neg (by omega), if_neg (by omega), Int.add_assoc]
            rw [ev, e36, upZ_s, upZ_up, e84 b b1.1 b1.2]
            exact ⟨by omega, by omega, fun _ => ⟨by omega, fun z => by omega, fun _ => ⟨by omega, k2⟩⟩, fun z => absurd (Int.le_refl _) z⟩
        · intro k k1 k2 ihk b hb
          have rk := hrl k k1 k2
          have lk := hleft k k1 k2
          have go : ∀ b2, ((b2 = -1 ∧ ∀ j, 0 ≤ j → j < k + 1 → 0 < left j → ¬ sg g ≤ rl j) ∨ ((0 ≤ b2 ∧ b2 < k + 1) ∧ 0 < left b2 ∧ sg g ≤ rl b2 ∧ ∀ j, 0 ≤ j → j < k + 1 → 0 < left j → sg g ≤ rl j → rl b2 ≤ rl j)) → (∀ res, Ev 1 303 113 [some (.ref 59), some (.int (J G)), some (.int (J all)), some (.int (J (zor gv (zshl 1 g)))), some (.int (J t)), some (.int (J g)), some (.int (J b2)), some (.int (J (k + 1))), none] [] (hs E (jm (upZ N 89 left))) res → Ev 1 303 113 [some (.ref 59), some (.int (J G)), some (.int (J all)), some (.int (J (zor gv (zshl 1 g)))), some (.int (J t)), some (.int (J g)), some (.int (J b)), some (.int (J k)), none] [] (hs E (jm (upZ N 89 left))) res) → ∃ b', ((b' = -1 ∧ ∀ j, 0 ≤ j → j < K → 0 < left j → ¬ sg g ≤ rl j) ∨ ((0 ≤ b' ∧ b' < K) ∧ 0 < left b' ∧ sg g ≤ rl b' ∧ ∀ j, 0 ≤ j → j < K → 0 < left j → sg g ≤ rl j → rl b' ≤ rl j)) ∧ ∀ res, Ev 1 303 113 [some (.ref 59), some (.int (J G)), some (.int (J all)), some (.int (J (zor gv (zshl 1 g)))), some (.int (J t)), some (.int (J g)), some (.int (J (b'))), some (.int (J K)), none] [] (hs E (jm (upZ N 89 left))) res → Ev 1 303 113 [some (.ref 59), some (.int (J G)), some (.int (J all)), some (.int (J (zor gv (zshl 1 g)))), some (.int (J t)), some (.int (J g)), some (.int (J b)), some (.int (J k)), none] [] (hs E (jm (upZ N 89 left))) res := by
            intro b2 h2 hstep
            obtain ⟨b', h3, h4⟩ := ihk b2 h2
            exact ⟨b', h3, fun res h => hstep res (h4 res h)⟩
          have ext : ∀ {Q : Int → Prop}, (∀ j, 0 ≤ j → j < k → Q j) → Q k → ∀ j, 0 ≤ j → j < k + 1 → Q j := by
            intro Q h1 h2 j a c
            by_cases q : j = k
            · rw [q]; exact h2
            · exact h1 j a (by omega)
          have stp : ∀ res, ((left k ≤ 0 → Ev 1 303 113 [some (.ref 59), some (.int (J G)), some (.int (J all)), some (.int (J (zor gv (zshl 1 g)))), some (.int (J t)), some (.int (J g)), some (.int (J b)), some (.int (J (k + 1))), none] [] (hs E (jm (upZ N 89 left))) res) ∧ (¬ left k ≤ 0 → (rl k < sg g → Ev 1 303 113 [some (.ref 59), some (.int (J G)), some (.int (J all)), some (.int (J (zor gv (zshl 1 g)))), some (.int (J t)), some (.int (J g)), some (.int (J b)), some (.int (J (k + 1))), none] [] (hs E (jm (upZ N 89 left))) res) ∧ (¬ rl k < sg g → (R b ∧ ((b = -1 → Ev 1 303 113 [some (.ref 59), some (.int (J G)), some (.int (J all)), some (.int (J (zor gv (zshl 1 g)))), some (.int (J t)), some (.int (J g)), some (.int (J k)), some (.int (J (k + 1))), none] [] (hs E (jm (upZ N 89 left))) res) ∧ (¬ b = -1 → ((0 ≤ b ∧ b < 8) ∧ ((R (N 84 b)) ∧ ((N 84 b ≤ rl k → Ev 1 303 113 [some (.ref 59), some (.int (J G)), some (.int (J all)), some (.int (J (zor gv (zshl 1 g)))), some (.int (J t)), some (.int (J g)), some (.int (J b)), some (.int (J (k + 1))), none] [] (hs E (jm (upZ N 89 left))) res) ∧ (¬ N 84 b ≤ rl k → Ev 1 303 113 [some (.ref 59), some (.int (J G)), some (.int (J all)), some (.int (J (zor gv (zshl 1 g)))), some (.int (J t)), some (.int (J g)), some (.int (J k)), some (.int (J (k + 1))), none] [] (hs E (jm (upZ N 89 left))) res)))))))))) → Ev 1 303 113 [some (.ref 59), some (.int (J G)), some (.int (J all)), some (.int (J (zor gv (zshl 1 g)))), some (.int (J t)), some (.int (J g)), some (.int (J b)), some (.int (J k)), none] [] (hs E (jm (upZ N 89 left))) res := by
            intro res h
            refine v303_113 ?_
            rw [e36, upZ_s, e88 g g1.1 (by omega), e84 k k1 k2]
            exact ⟨by omega, by omega, fun z => by omega, fun _ => ⟨by omega, by omega, h.1, fun z => ⟨by omega, by omega, by omega, (h.2 z).1, (h.2 z).2⟩⟩⟩
          by_cases q1 : left k ≤ 0
          · refine go b ?_ (fun res h => stp res ⟨fun _ => h, fun z => absurd q1 z⟩)
            rcases hb with ⟨b1, b2⟩ | ⟨b1, b2, b3, b4⟩
            · exact Or.inl ⟨b1, ext b2 (fun z => by omega)⟩
            · exact Or.inr ⟨by omega, b2, b3, ext b4 (fun z => by omega)⟩
          · by_cases q2 : rl k < sg g
            · refine go b ?_ (fun res h => stp res ⟨fun z => absurd z q1, fun _ => ⟨fun _ => h, fun z => absurd q2 z⟩⟩)
              rcases hb with ⟨b1, b2⟩ | ⟨b1, b2, b3, b4⟩
              · exact Or.inl ⟨b1, ext b2 (fun _ z => by omega)⟩
              · exact Or.inr ⟨by omega, b2, b3, ext b4 (fun _ z => by omega)⟩
            · rcases hb with ⟨b1, b2⟩ | ⟨b1, b2, b3, b4⟩
              · refine go k (Or.inr ⟨by omega, by omega, by omega, ext (fun j a c l s => absurd s (b2 j a c l)) (fun _ _ => Int.le_refl _)⟩) (fun res h => stp res ⟨fun z => absurd z q1, fun _ => ⟨fun z => absurd z q2, fun _ => ⟨by omega, fun _ => h, fun z => absurd b1 z⟩⟩⟩)
              · have rb := hrl b b1.1 (by omega)
                have eb := h84 b b1.1 (by omega)
                by_cases q3 : rl b ≤ rl k
                · exact go b (Or.inr ⟨by omega, b2, b3, ext b4 (fun _ _ => q3)⟩) (fun res h => stp res ⟨fun z => absurd z q1, fun _ => ⟨fun z => absurd z q2, fun _ => ⟨by omega, fun z => by omega, fun _ => ⟨by omega, by omega, fun _ => h, fun z => absurd (by omega) z⟩⟩⟩⟩)
                · exact go k (Or.inr ⟨by omega, by omega, by omega, ext (fun j a c l s => by have := b4 j a c l s; omega) (fun _ _ => Int.le_refl _)⟩) (fun res h => stp res ⟨fun z => absurd z q1, fun _ => ⟨fun z => absurd z q2, fun _ => ⟨by omega, fun z => by omega, fun _ => ⟨by omega, by omega, fun z => absurd z (by omega), fun _ => h⟩⟩⟩⟩)
      · intro g hg
        exact ⟨g, hg, fun res h => v303_47 ⟨by omega, by omega, fun _ => h, fun z => absurd (Int.le_refl _) z⟩⟩
      · intro i i1 i2 ihi g hg
        have ext : ∀ {Q : Int → Prop}, (∀ j, 0 ≤ j → j < i → Q j) → Q i → ∀ j, 0 ≤ j → j < i + 1 → Q j := by
          intro Q h1 h2 j a c
          by_cases q : j = i
          · rw [q]; exact h2
          · exact h1 j a (by omega)
        have si := hsg i i1 (by omega)
        have zb := zbit hgv (b := i) ⟨i1, by omega⟩
        have ei := e88 i i1 (by omega)
        by_cases q1 : bitZ gv i = 0
        · rcases hg with ⟨b1, b2⟩ | ⟨b1, b2, b3⟩
          · obtain ⟨g', h3, h4⟩ := ihi i (Or.inr ⟨by omega, q1, ext (fun j a c l => absurd l (b2 j a c)) (fun _ => Int.le_refl _)⟩)
            refine ⟨g', h3, fun res h => v303_47 ?_⟩
            rw [zb, b1]
            exact ⟨by omega, by omega, fun z => by omega, fun _ => ⟨fun _ => ⟨by decide, fun _ => h4 res h, fun z => absurd rfl z⟩, fun z => absurd q1 z⟩⟩
          · have eg := e88 g b1.1 (by omega)
            have sgb := hsg g b1.1 (by omega)
            by_cases q2 : sg i ≤ sg g
            · obtain ⟨g', h3, h4⟩ := ihi g (Or.inr ⟨by omega, b2, ext b3 (fun _ => q2)⟩)
              refine ⟨g', h3, fun res h => v303_47 ?_⟩
              rw [zb, ei, eg]
              exact ⟨by omega, by omega, fun z => by omega, fun _ => ⟨fun _ => ⟨by omega, fun z => by omega, fun _ => ⟨by omega, by omega, by omega, by omega, fun _ => h4 res h, fun z => absurd q2 z⟩⟩, fun z => absurd q1 z⟩⟩
            · obtain ⟨g', h3, h4⟩ := ihi i (Or.inr ⟨by omega, q1, ext (fun j a c l => by have := b3 j a c l; omega) (fun _ => Int.le_refl _)⟩)
              refine ⟨g', h3, fun res h => v303_47 ?_⟩
              rw [zb, ei, eg]
              exact ⟨by omega, by omega, fun z => by omega, fun _ => ⟨fun _ => ⟨by omega, fun z => by omega, fun _ => ⟨by omega, by omega, by omega, by omega, fun z => absurd z q2, fun _ => h4 res h⟩⟩, fun z => absurd q1 z⟩⟩
        · obtain ⟨g', h3, h4⟩ := ihi g (by
            rcases hg with ⟨b1, b2⟩ | ⟨b1, b2, b3⟩
            · exact Or.inl ⟨b1, ext b2 q1⟩
            · exact Or.inr ⟨by omega, b2, ext b3 (fun z => absurd z q1)⟩)
          refine ⟨g', h3, fun res h => v303_47 ?_⟩
          rw [zb]
          exact ⟨by omega, by omega, fun z => by omega, fun _ => ⟨fun z => absurd z q1, fun _ => h4 res h⟩⟩
  have cop := loopZ (a := 0) (n := K) (Q := fun k => ∀ g : Int → Int, (∀ j, 0 ≤ j → j < k → g j = rm j) → ∃ r f, bst G K sg rl (fun _ => True) rm r ∧ Ev 1 303 2 [some (.ref 59), some (.int (J G)), some (.int (J k)), none, none, none, none, none, none] [] (hs E (jm (upZ N 89 g))) (some (.int (J r)), hs E (jm (upZ N 89 f)))) hK.1 ?_ ?_
  · obtain ⟨r, f, k1, k2⟩ := cop (N 89) (fun j a b => by omega)
    rw [upZ_id] at k2
    exact ⟨r, f, c303 (v303_0 k2), k1⟩
  · intro g hg
    have hc0 : sumZ G (fun i => bZ (bitZ 0 i = 0)) = G.toNat := by
      have e := indZ (P := fun m => sumZ m (fun i => bZ (bitZ 0 i = 0)) = m) rfl (fun m m1 ih => by rw [sumZ_succ m1, ih, bZ_t bit00]) G hG.1
      rw [e]
      omega
    obtain ⟨r, f, k1, k2⟩ := turn G.toNat 0 0 0 g (by omega) (by decide) (by decide) (fun k a b => by rw [hg k a b]; exact hrm k a b) hc0
    have hr : r = -1 ∨ 0 ≤ r := k1.elim (fun z => Or.inl z.1) (fun z => Or.inr z.1)
    have k3 : bst G K sg rl (fun _ => True) rm r := by
      have h1 := bst_congr (U' := fun _ => True) (fun i _ _ => ⟨fun _ => trivial, fun _ => bit00⟩) k1
      have hf : ∀ f, fsb G K sg rl (fun _ => True) g f ↔ fsb G K sg rl (fun _ => True) rm f := fun f => ⟨fun h => ⟨h.1, fun k a b => by rw [← hg k a b]; exact h.2 k a b⟩, fun h => ⟨h.1, fun k a b => by rw [hg k a b]; exact h.2 k a b⟩⟩
      rcases h1 with ⟨h1, h2⟩ | ⟨h1, ⟨f, h2, h3⟩, h4⟩
      · exact Or.inl ⟨h1, fun f hf' => h2 f ((hf f).mpr hf')⟩
      · exact Or.inr ⟨h1, ⟨f, (hf f).mp h2, h3⟩, fun f' hf' => h4 f' ((hf f').mpr hf')⟩
    have ev : (if r = -1 then (-1 : Int) else 0 + r) = r := by
      rcases hr with q | q
      · rw [if_pos q, q]
      · rw [if_neg (by omega), Int.zero_add]
    rw [ev] at k2
    refine ⟨r, f, k3, v303_2 ?_⟩
    rw [show (upZ N 89 g) 59 36 = K from h36]
    exact ⟨by omega, by omega, fun _ => k2, fun z => absurd (Int.le_refl _) z⟩
  · intro k k1 k2 ih g hg
    obtain ⟨r, f, a1, a2⟩ := ih (updZ g k (rm k)) (fun j a b => by
      by_cases q : j = k
      · rw [q, updZ_s]
      · rw [updZ_n q]; exact hg j a (by omega))
    refine ⟨r, f, a1, v303_2 ?_⟩
    rw [show (upZ N 89 g) 59 36 = K from h36, show (upZ N 89 g) 85 k = rm k from h85 k k1 k2, upZ_s, upZ_up]
    exact ⟨by omega, by omega, fun z => by omega, fun _ => ⟨by omega, a2⟩⟩
end CUQ
