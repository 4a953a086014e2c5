theorem aLt (a : RS) (h : qi a 8 0 = nI 5) : aL a = 5 := by unfold aL; rw [h]; rfl
