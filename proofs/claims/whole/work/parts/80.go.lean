section GO
variable {l : Launch} {G : gG} {Q : State → Array Value → List Frame → Prop} {Z : State → Prop} {b N : Nat} {xs : Nat → Int32}
theorem lw_go (hl : l.stackTraces = false) (hX : g_scr G Q b N xs) (hN : N ≤ 3072) (hret : ∀ (L : List (Option Value)) (h : gH) (k n : Nat), k ≤ 601024 → n ≤ 7293034 → GX l G M_L_law (g_phL Q Z) k n 1424 L [.int 1] h (some ())) (h0 : gH) : GX l G M_L_law (g_phL Q Z) 0 0 0 [some (.ref b), none, none, none, none, none, none, none, none] [] h0 (some ()) := by
  obtain ⟨hA, eA, zA, fA⟩ := x7_c h0
  obtain ⟨hB, D, eB, zB, mB, rd, lv, hq⟩ := x8_c hA
  have zB' : hB.1 = h0.1 + 628 := by omega
  have ops : lw_Ops (cInv h0.1) h0.1 hA.1 hB.1 := by
    rw [zB', zA]
    exact cOps h0.1
  exact law_start hl hX hN hret eA eB (inv_0 zA fA zB mB rd lv hq) ops
end GO
