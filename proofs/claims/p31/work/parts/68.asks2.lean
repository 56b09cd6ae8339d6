/-! the least weight and the least quality: the calls -/
