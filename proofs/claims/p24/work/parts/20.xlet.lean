/-! the mathematics goes on: writing a value into a name -/
theorem xlet_eq (v : xSt) (k : xSt → Option xR) : xlet v k = k v := rfl
