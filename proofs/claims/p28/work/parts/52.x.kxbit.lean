/-! whom one may call in an hour: the class's row bit by bit, and the reference's look at the lines -/
