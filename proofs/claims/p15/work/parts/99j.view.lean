/-! WHAT THE TWO HOLD, SET BY SET (not wanted here) -/
