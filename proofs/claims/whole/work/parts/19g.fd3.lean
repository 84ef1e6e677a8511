theorem fd3 : FD3 := fun _ _ _ _ _ hR h3 f => finds_3 hR h3 f
