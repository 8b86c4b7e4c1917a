/** Depots that the tests begin with. */
final class Depots {
    private Depots() {
    }

    static void into(HammerDepot d, int rack, int... pitches) {
        for (int pitch : pitches) {
            d.addHammer(pitch, rack);
        }
    }

    /** Books a hammer with just this pitch and returns its index. */
    static int book(HammerDepot d, int borrower, int pitch, int firstDay, int lastDay) {
        return d.grant(d.request(borrower, pitch, 0, firstDay, lastDay));
    }

    /** Lends a hammer with just this pitch on the next day, for so many days. */
    static int lend(HammerDepot d, int pitch, int days) {
        int hammer = book(d, 5, pitch, d.day() + 1, d.day() + days);
        d.passDays(1);
        return hammer;
    }

    /** Lends the hammer for a day and takes it back with so much more wear, at most 99. */
    static int wearOff(HammerDepot d, int hammer, int wear, int rack) {
        Check.due("the hammer that is lent", lend(d, d.pitch(hammer), 1), hammer);
        return d.giveBack(hammer, 10 * wear, rack);
    }

    /** The contents of a rack, as renderRack writes them. */
    static String rack(HammerDepot d, int rack) {
        return Check.output(d, d.renderRack(rack));
    }

    static String hammer(HammerDepot d, int hammer) {
        return Check.output(d, d.renderHammer(hammer));
    }

    /**
     * A depot in the midst of its work on day 5: hammer 0 is lent and late, hammer 1 is worn, hammer 2 is booked, one
     * booking was broken, the requests 4 and 6 have come, no hammer fits request 5, request 7 can be granted. The
     * snapshot is of day 2, the error position 2, the index of the failed command 1, the script buffer "day".
     */
    static HammerDepot busy() {
        HammerDepot d = new HammerDepot();
        into(d, 0, 30, 35);
        into(d, 1, 40, 45);
        into(d, 2, 50, 55);
        book(d, 1, 30, 1, 2);
        book(d, 2, 35, 2, 3);
        book(d, 3, 30, 4, 4);
        book(d, 4, 40, 8, 9);
        d.passDays(2);
        d.giveBack(1, 444, 1);
        d.request(5, 45, 0, 4, 5);
        d.request(6, 60, 2, 9, 9);
        d.request(7, 55, 0, 3, 3);
        d.save();
        d.passDays(3);
        Check.run(d, "dax");
        Check.run(d, "day;day 0");
        d.request(8, 50, 0, 10, 12);
        d.swapPlaces(2, 0, 5);
        d.renderHammer(0);
        Check.type(d, "day");
        return d;
    }

    /** All that can be read of a depot, with its output text; the output text is another one afterwards. */
    static String everything(HammerDepot d) {
        StringBuilder text = new StringBuilder();
        Object character = Check.outcome(() -> d.outputAt(0));
        for (int i = 1; character instanceof Character && i < 30; i++) {
            int next = i;
            text.append(character);
            character = Check.outcome(() -> d.outputAt(next));
        }
        text.append('\n').append(Check.outcome(d::errorPosition)).append('\n').append(Check.outcome(d::failedCommand)).append('\n');
        return text.append(Check.face(d)).toString();
    }
}
