import java.util.NoSuchElementException;

/** Promises 1 to 4, 12 to 15, 18 to 20, 36, 42 and 43: hammers and racks. */
public final class HammersTest {
    private static final Class<IndexOutOfBoundsException> INDEX = IndexOutOfBoundsException.class;
    private static final Class<IllegalArgumentException> ARGUMENT = IllegalArgumentException.class;
    private static final Class<IllegalStateException> STATE = IllegalStateException.class;
    private static final Class<NoSuchElementException> ELEMENT = NoSuchElementException.class;

    private static void newObject() {
        HammerDepot d = new HammerDepot();
        Check.due("1 hammerCount", d.hammerCount(), 0);
        Check.due("1 requestCount", d.requestCount(), 0);
        Check.due("1 day", d.day(), 0);
        Check.due("1 coins", d.coins(), 20);
        Check.due("1 brokenTotal", d.brokenTotal(), 0);
        Check.due("1 lentTotal", d.lentTotal(), 0);
        Check.due("1 first id", d.request(0, 0, 0, 1, 1), 0);
        Check.refused("1 hammerAt", ELEMENT, () -> d.hammerAt(2, 5));
    }

    private static void addHammer() {
        HammerDepot d = new HammerDepot();
        Check.refused("2 pitch -1", ARGUMENT, () -> d.addHammer(-1, 0));
        Check.refused("2 pitch 61 before rack", ARGUMENT, () -> d.addHammer(61, 9));
        Check.refused("2 rack -1", INDEX, () -> d.addHammer(0, -1));
        Check.refused("2 rack 3", INDEX, () -> d.addHammer(0, 3));
        Check.due("2 none was added", d.hammerCount(), 0);
        for (int i = 0; i < 6; i++) {
            Check.due("2 index", d.addHammer(i * 12, 1), i);
            Check.due("2 place", d.placeOf(i), i);
        }
        Check.refused("2 full rack", STATE, () -> d.addHammer(5, 1));
        for (int i = 6; i < 12; i++) {
            Check.due("2 index", d.addHammer(60, 2 * (i % 2)), i);
        }
        Check.refused("2 thirteenth", STATE, () -> d.addHammer(5, 0));
        Check.refused("2 thirteenth, no such rack", INDEX, () -> d.addHammer(5, 3));
        Check.due("12 hammerCount", d.hammerCount(), 12);
        Check.due("13 pitch", d.pitch(3), 36);
        Check.due("13 pitch", d.pitch(11), 60);
        Check.due("14 wear", d.wear(11), 0);
        Check.due("15 isLent", d.isLent(11), false);
    }

    private static void lowestFreePlace() {
        HammerDepot d = new HammerDepot();
        d.addHammer(1, 0);
        d.addHammer(2, 0);
        d.addHammer(3, 0);
        d.moveHammer(1, 2);
        Check.due("2 gap", d.addHammer(4, 0), 3);
        Check.due("2 gap is filled", d.hammerAt(0, 1), 3);
        d.swapPlaces(0, 0, 5);
        d.addHammer(5, 0);
        Check.due("2 place 0 is filled", d.hammerAt(0, 0), 4);
    }

    private static void moveHammer() {
        HammerDepot d = new HammerDepot();
        d.addHammer(10, 0);
        d.addHammer(20, 0);
        d.addHammer(30, 1);
        Check.refused("3 hammer -1", INDEX, () -> d.moveHammer(-1, 1));
        Check.refused("3 hammer 3", INDEX, () -> d.moveHammer(3, 1));
        Check.refused("3 rack 3", INDEX, () -> d.moveHammer(0, 3));
        Check.refused("3 rack -1", INDEX, () -> d.moveHammer(0, -1));
        Check.refused("3 same rack", STATE, () -> d.moveHammer(0, 0));
        Check.due("3 place", d.moveHammer(0, 1), 1);
        Check.due("3 rack", d.rackOf(0), 1);
        Check.due("3 place", d.placeOf(0), 1);
        Check.refused("3 the old place is free", ELEMENT, () -> d.hammerAt(0, 0));
        Check.due("3 back to the lowest place", d.moveHammer(2, 0), 0);
        for (int i = 0; i < 5; i++) {
            d.addHammer(5, 1);
        }
        Check.refused("3 full rack", STATE, () -> d.moveHammer(1, 1));
        lend(d, 1, 20);
        Check.refused("3 lent", STATE, () -> d.moveHammer(1, 2));
    }

    private static void lend(HammerDepot d, int hammer, int pitch) {
        int id = d.request(7, pitch, 0, d.day() + 1, d.day() + 3);
        Check.due("the hammer to lend", d.grant(id), hammer);
        d.passDays(1);
    }

    private static void swapPlaces() {
        HammerDepot d = new HammerDepot();
        d.addHammer(10, 2);
        d.addHammer(20, 2);
        Check.refused("4 rack 3", INDEX, () -> d.swapPlaces(3, 0, 0));
        Check.refused("4 rack -1", INDEX, () -> d.swapPlaces(-1, 0, 1));
        Check.refused("4 place 6", INDEX, () -> d.swapPlaces(2, 6, 6));
        Check.refused("4 place 6", INDEX, () -> d.swapPlaces(2, 0, 6));
        Check.refused("4 place -1", INDEX, () -> d.swapPlaces(2, -1, 0));
        Check.refused("4 same", ARGUMENT, () -> d.swapPlaces(2, 1, 1));
        Check.due("4 two hammers", d.swapPlaces(2, 0, 1), 1);
        Check.due("4 moved", d.hammerAt(2, 0), 1);
        Check.due("4 moved", d.placeOf(0), 1);
        Check.due("4 with a free place", d.swapPlaces(2, 5, 0), 2);
        Check.due("4 moved", d.placeOf(1), 5);
        Check.refused("4 now free", ELEMENT, () -> d.hammerAt(2, 0));
        Check.due("4 free places", d.swapPlaces(2, 2, 3), 2);
        Check.due("4 sorted", d.swapPlaces(2, 0, 1), 1);
        Check.due("4 sorted", d.swapPlaces(2, 1, 5), 0);
    }

    private static void reading() {
        HammerDepot d = new HammerDepot();
        d.addHammer(24, 1);
        for (int h : new int[] {-1, 1, Integer.MIN_VALUE, Integer.MAX_VALUE}) {
            Check.refused("13 " + h, INDEX, () -> d.pitch(h));
            Check.refused("14 " + h, INDEX, () -> d.wear(h));
            Check.refused("15 " + h, INDEX, () -> d.isLent(h));
            Check.refused("16 " + h, INDEX, () -> d.borrower(h));
            Check.refused("17 " + h, INDEX, () -> d.dueDay(h));
            Check.refused("18 " + h, INDEX, () -> d.rackOf(h));
            Check.refused("19 " + h, INDEX, () -> d.placeOf(h));
        }
        Check.refused("16 not lent", ELEMENT, () -> d.borrower(0));
        Check.refused("17 not lent", ELEMENT, () -> d.dueDay(0));
        Check.due("18 rackOf", d.rackOf(0), 1);
        Check.due("19 placeOf", d.placeOf(0), 0);
        Check.due("20 hammerAt", d.hammerAt(1, 0), 0);
        Check.refused("20 free", ELEMENT, () -> d.hammerAt(1, 1));
        Check.refused("20 rack 3", INDEX, () -> d.hammerAt(3, 0));
        Check.refused("20 rack -1", INDEX, () -> d.hammerAt(-1, 0));
        Check.refused("20 place 6", INDEX, () -> d.hammerAt(0, 6));
        Check.refused("20 place -1", INDEX, () -> d.hammerAt(1, -1));
        lend(d, 0, 24);
        Check.due("15 lent", d.isLent(0), true);
        Check.due("16 borrower", d.borrower(0), 7);
        Check.due("17 dueDay", d.dueDay(0), 3);
        Check.refused("18 lent", ELEMENT, () -> d.rackOf(0));
        Check.refused("19 lent", ELEMENT, () -> d.placeOf(0));
        Check.refused("20 taken out", ELEMENT, () -> d.hammerAt(1, 0));
    }

    private static void rankings() {
        HammerDepot d = new HammerDepot();
        Check.refused("36 no hammers", ELEMENT, () -> d.hammerByWear(0));
        Check.refused("42 no hammers", ArithmeticException.class, d::meanWear);
        Check.refused("43 no hammers", ArithmeticException.class, d::lentShare);
        d.addHammer(30, 0);
        d.addHammer(20, 0);
        d.addHammer(30, 0);
        d.addHammer(40, 0);
        lend(d, 3, 40);
        Check.due("43 lentShare", d.lentShare(), 1.0f / 4.0f);
        d.giveBack(3, 70, 0);
        lend(d, 0, 30);
        Check.due("43 the first hammer", d.lentShare(), 0.25f);
        d.giveBack(0, 39, 0);
        int[] byWear = {3, 0, 1, 2};
        for (int rank = 0; rank < 4; rank++) {
            Check.due("36 rank " + rank, d.hammerByWear(rank), byWear[rank]);
        }
        Check.refused("36 rank -1", ELEMENT, () -> d.hammerByWear(-1));
        Check.refused("36 rank 4", ELEMENT, () -> d.hammerByWear(4));
        Check.due("42 meanWear", d.meanWear(), 10.0 / 4.0);
        Check.due("43 lentShare", d.lentShare(), 0.0f);
        d.addHammer(30, 1);
        Check.due("36 same pitch by index", d.hammerByWear(4), 4);
        Check.due("36 same pitch by index", d.hammerByWear(3), 2);
        Check.due("42 meanWear", d.meanWear(), 2.0);
        d.addHammer(30, 1);
        Check.due("42 meanWear", d.meanWear(), 10.0 / 6.0);
        lend(d, 1, 20);
        Check.due("43 lentShare", d.lentShare(), 1.0f / 6.0f);
        Check.due("36 a lent hammer counts", d.hammerByWear(2), 1);
    }

    public static void main(String[] args) {
        newObject();
        addHammer();
        lowestFreePlace();
        moveHammer();
        swapPlaces();
        reading();
        rankings();
        Check.end();
    }
}
