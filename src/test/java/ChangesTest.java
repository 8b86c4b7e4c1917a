/** Promises 44 to 47 and 52 to 54: the check of the state, output texts, undo and the snapshot. */
public final class ChangesTest {
    private static final Class<IndexOutOfBoundsException> INDEX = IndexOutOfBoundsException.class;
    private static final Class<IllegalStateException> STATE = IllegalStateException.class;

    private static void rendering() {
        HammerDepot d = new HammerDepot();
        Check.refused("47 empty", INDEX, () -> d.outputAt(0));
        Check.refused("47 -1", INDEX, () -> d.outputAt(-1));
        Check.due("45 empty", Check.output(d, d.renderRack(2)), "-,-,-,-,-,-");
        for (int i = 0; i < 12; i++) {
            d.addHammer(i * 5, i < 6 ? 0 : 1);
        }
        Check.due("45 full", Check.output(d, d.renderRack(1)), "6,7,8,9,10,11");
        d.moveHammer(11, 2);
        d.swapPlaces(2, 0, 3);
        Check.due("45 gaps", Check.output(d, d.renderRack(2)), "-,-,-,11,-,-");
        Check.due("46 in a rack", Check.output(d, d.renderHammer(0)), "0p0w0");
        d.grant(d.request(2, 55, 0, 1, 12));
        d.passDays(1);
        Check.due("46 lent", Check.output(d, d.renderHammer(11)), "11p55w0@2<12");
        d.giveBack(11, 70, 2);
        d.grant(d.request(9, 55, 0, 3, 4));
        d.passDays(2);
        Check.due("46 lent", Check.output(d, d.renderHammer(11)), "11p55w7@9<4");
        Check.due("46 length", d.renderHammer(11), 11);
        Check.refused("47 behind the end", INDEX, () -> d.outputAt(11));
        Check.refused("46 hammer 12", INDEX, () -> d.renderHammer(12));
        Check.refused("46 hammer -1", INDEX, () -> d.renderHammer(-1));
        Check.refused("45 rack 3", INDEX, () -> d.renderRack(3));
        Check.refused("45 rack -1", INDEX, () -> d.renderRack(-1));
        Check.due("47 the text stays", Check.output(d, 11), "11p55w7@9<4");
        Check.due("46 shorter", Check.output(d, d.renderHammer(1)), "1p5w0");
        Check.refused("47 nothing of the longer text", INDEX, () -> d.outputAt(5));
    }

    private static void undo() {
        HammerDepot d = new HammerDepot();
        Check.refused("52 nothing", STATE, d::undo);
        for (int i = 0; i < 10; i++) {
            d.addHammer(i, i % 3);
        }
        for (int left = 7; left >= 0; left--) {
            Check.due("52 left", d.undo(), left);
            Check.due("12 hammerCount", d.hammerCount(), left + 2);
        }
        Check.refused("52 only eight", STATE, d::undo);
        d.addHammer(30, 0);
        Check.due("2 the index of before", d.hammerCount(), 3);
        Check.due("52 after undoing", d.undo(), 0);
    }

    /** A refused change must not cost the oldest of the eight that can be undone. */
    private static void refusedWhenFull() {
        HammerDepot d = new HammerDepot();
        for (int i = 0; i < 9; i++) {
            d.addHammer(i, i % 3);
        }
        Check.refused("2 pitch", IllegalArgumentException.class, () -> d.addHammer(99, 0));
        Check.due("49 failure", Check.run(d, "day 5;day 0"), STATE);
        for (int left = 7; left >= 0; left--) {
            Check.due("52 left", d.undo(), left);
            Check.due("52 hammers", d.hammerCount(), left + 1);
        }
    }

    private static void whatIsNoChange() {
        HammerDepot d = new HammerDepot();
        d.addHammer(30, 0);
        Check.outcome(() -> d.addHammer(61, 0));
        Check.outcome(() -> d.moveHammer(0, 0));
        Check.outcome(() -> d.grant(0));
        Check.outcome(() -> d.passDays(0));
        d.save();
        d.mostGrants();
        d.isConsistent();
        d.renderRack(0);
        Check.due("52 one change", d.undo(), 0);
        d.grantMost();
        Check.due("52 a change without an effect", d.undo(), 0);
    }

    private static void whatUndoLeaves() {
        HammerDepot d = new HammerDepot();
        d.addHammer(30, 0);
        d.passDays(1);
        int length = d.renderHammer(0);
        Check.run(d, "x");
        Check.run(d, "day 0");
        Check.type(d, "day");
        d.undo();
        Check.due("52 the output text", Check.output(d, length), "0p30w0");
        Check.due("52 the error position", d.errorPosition(), 0);
        Check.due("52 the failed command", d.failedCommand(), 0);
        Check.due("52 the buffer", d.runScript(), 1);
        Check.due("41 day", d.day(), 1);
    }

    private static void snapshot() {
        HammerDepot d = new HammerDepot();
        Check.refused("54 none", STATE, d::restore);
        Check.due("53 save", d.save(), 0);
        d.addHammer(30, 0);
        d.request(1, 30, 0, 1, 2);
        Check.due("53 save again", d.save(), 1);
        d.addHammer(31, 0);
        d.grant(0);
        d.request(1, 30, 0, 5, 5);
        d.passDays(3);
        d.giveBack(0, 50, 2);
        d.undo();
        Check.due("54 restore", d.restore(), 1);
        Check.refused("54 nothing to undo", STATE, d::undo);
        Check.due("12 hammerCount", d.hammerCount(), 1);
        Check.due("41 day", d.day(), 0);
        Check.due("40 lentTotal", d.lentTotal(), 0);
        Check.due("37 coins", d.coins(), 20);
        Check.due("38 coinsByAccounts", d.coinsByAccounts(), 20);
        Check.due("15 isLent", d.isLent(0), false);
        Check.due("18 rackOf", d.rackOf(0), 0);
        Check.due("24 requestAt", d.requestAt(0), 0);
        Check.due("21 bookings", d.bookings(0), 0);
        Check.due("5 next id", d.request(1, 30, 0, 1, 2), 1);
        Check.due("52 after restoring", d.undo(), 0);
        d.passDays(5);
        Check.due("54 the snapshot is kept", d.restore(), 1);
        Check.due("41 day", d.day(), 0);
        d.addHammer(9, 1);
        d.undo();
        Check.due("54 not undone", d.restore(), 1);
    }

    private static void consistency() {
        HammerDepot d = new HammerDepot();
        Check.due("44 new", d.isConsistent(), true);
        for (int i = 0; i < 12; i++) {
            d.addHammer(i * 5 % 17, i % 3);
            Check.due("44 hammers " + i, d.isConsistent(), true);
        }
        d.swapPlaces(0, 0, 5);
        for (int i = 0; i < 8; i++) {
            d.request(i, i * 2, 2, 1 + i % 3, 4);
        }
        Check.due("44 requests", d.isConsistent(), true);
        d.grantMost();
        d.passDays(7);
        Check.due("44 lent", d.isConsistent(), true);
        for (int h = 0; h < 12; h++) {
            int hammer = h;
            Check.outcome(() -> d.giveBack(hammer, 100, 1));
        }
        Check.due("44 given back", d.isConsistent(), true);
        d.renewFace(d.hammerByWear(0));
        Check.due("44 renewed", d.isConsistent(), true);
    }

    public static void main(String[] args) {
        rendering();
        undo();
        refusedWhenFull();
        whatIsNoChange();
        whatUndoLeaves();
        snapshot();
        consistency();
        Check.end();
    }
}
