/** Twins of one station, to ask more of it than one object may be called: a fresh one each time one is used up. */
final class Asker {
    private final Station station;
    private final Checks.Call first;
    private Station twin = null;

    /** On each twin this call is made first, whatever it throws (null: none). */
    Asker(Station station, Checks.Call first) {
        this.station = station;
        this.first = first;
    }

    Asker(Station station) {
        this(station, null);
    }

    Station next() {
        if (twin == null || twin.callsLeft() == 0) {
            twin = station.twin();
            if (first != null) {
                Checks.outcome(twin, first);
            }
        }
        return twin;
    }
}
