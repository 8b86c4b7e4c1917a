import java.util.NoSuchElementException;

/** Promises 5 to 8 and 21 to 28: requests, bookings and grants together. */
public final class RequestsTest {
    private static final Class<IndexOutOfBoundsException> INDEX = IndexOutOfBoundsException.class;
    private static final Class<IllegalArgumentException> ARGUMENT = IllegalArgumentException.class;
    private static final Class<IllegalStateException> STATE = IllegalStateException.class;
    private static final Class<NoSuchElementException> ELEMENT = NoSuchElementException.class;
    private static final Class<UnsupportedOperationException> UNSUPPORTED = UnsupportedOperationException.class;

    private static HammerDepot withHammers(int... pitches) {
        HammerDepot d = new HammerDepot();
        for (int i = 0; i < pitches.length; i++) {
            d.addHammer(pitches[i], i % 3);
        }
        return d;
    }

    private static void refusedRequests(HammerDepot d, int day) {
        int[][] wrong = {
            {-1, 0, 0, day + 1, day + 1}, {10, 0, 0, day + 1, day + 1},
            {0, -1, 0, day + 1, day + 1}, {0, 61, 0, day + 1, day + 1},
            {0, 0, -1, day + 1, day + 1}, {0, 0, 13, day + 1, day + 1},
            {0, 0, 0, day, day + 1}, {0, 0, 0, Integer.MIN_VALUE, day + 1},
            {0, 0, 0, day + 3, day + 2}, {0, 0, 0, day + 1, day + 41},
            {0, 0, 0, day + 1, Integer.MAX_VALUE}, {0, 0, 0, Integer.MAX_VALUE, Integer.MAX_VALUE},
        };
        for (int[] w : wrong) {
            Check.refused("5 " + java.util.Arrays.toString(w), ARGUMENT, () -> d.request(w[0], w[1], w[2], w[3], w[4]));
        }
    }

    private static void request() {
        HammerDepot d = new HammerDepot();
        refusedRequests(d, 0);
        Check.due("5 lowest", d.request(0, 0, 0, 1, 1), 0);
        Check.due("5 highest", d.request(9, 60, 12, 1, 40), 1);
        d.passDays(10);
        refusedRequests(d, 10);
        Check.due("5 last days", d.request(9, 60, 12, 50, 50), 2);
        for (int id = 3; id < 8; id++) {
            Check.due("5 id", d.request(1, 1, 1, 11, 11), id);
        }
        Check.refused("5 nine", STATE, () -> d.request(1, 1, 1, 11, 11));
        refusedRequests(d, 10);
        Check.due("23 requestCount", d.requestCount(), 8);
        d.cancelRequest(7);
        Check.due("5 ids are not used again", d.request(1, 1, 1, 11, 11), 8);
    }

    private static void cancelRequest() {
        HammerDepot d = new HammerDepot();
        for (int i = 0; i < 4; i++) {
            d.request(i, 1, 1, 5, 6);
        }
        Check.due("6 left", d.cancelRequest(1), 3);
        Check.refused("6 again", ELEMENT, () -> d.cancelRequest(1));
        Check.refused("6 id 4", ELEMENT, () -> d.cancelRequest(4));
        Check.refused("6 id -1", ELEMENT, () -> d.cancelRequest(-1));
        int[] ids = {0, 2, 3};
        for (int position = 0; position < 3; position++) {
            Check.due("24 position " + position, d.requestAt(position), ids[position]);
        }
        Check.refused("24 position 3", ELEMENT, () -> d.requestAt(3));
        Check.refused("24 position -1", ELEMENT, () -> d.requestAt(-1));
        Check.due("6 left", d.cancelRequest(3), 2);
        Check.due("23 requestCount", d.requestCount(), 2);
    }

    /** The requests behind one that is cancelled keep all that they ask for. */
    private static void movedUp() {
        HammerDepot d = withHammers(30, 35);
        d.request(0, 1, 2, 3, 3);
        d.request(7, 32, 2, 2, 4);
        Check.due("25 by tolerance", d.fits(1, 1), false);
        d.cancelRequest(0);
        Check.due("25 by tolerance", d.fits(1, 1), false);
        Check.due("25 by tolerance", d.fits(1, 0), true);
        Check.due("7 grant", d.grant(1), 0);
        Check.due("22 isBooked", d.isBooked(0, 1), false);
        Check.due("22 isBooked", d.isBooked(0, 2), true);
        Check.due("22 isBooked", d.isBooked(0, 4), true);
        d.passDays(2);
        Check.due("16 borrower", d.borrower(0), 7);
        HammerDepot e = withHammers(30, 41);
        e.request(0, 1, 0, 3, 3);
        e.request(0, 30, 12, 3, 3);
        Check.due("28 by itself", e.mostGrantsBySets(), 1);
        e.cancelRequest(0);
        Check.due("25 by tolerance", e.fits(1, 1), true);
        Check.due("28 by itself", e.mostGrantsBySets(), 1);
    }

    private static void fits() {
        HammerDepot d = withHammers(30, 36, 42);
        d.request(1, 36, 6, 3, 5);
        Check.due("25 below", d.fits(0, 0), true);
        Check.due("25 above", d.fits(0, 2), true);
        d.request(1, 35, 5, 3, 5);
        Check.due("25 at most the tolerance", d.fits(1, 0), true);
        Check.due("25 more than the tolerance", d.fits(1, 2), false);
        Check.refused("25 hammer 3", INDEX, () -> d.fits(0, 3));
        Check.refused("25 hammer -1", INDEX, () -> d.fits(0, -1));
        Check.refused("25 request first", ELEMENT, () -> d.fits(2, 3));
        Check.due("26 bestHammer", d.bestHammer(0), 1);
        Check.refused("26 id 2", ELEMENT, () -> d.bestHammer(2));
        Check.due("7 grant", d.grant(0), 1);
        Check.refused("26 granted", ELEMENT, () -> d.bestHammer(0));
        Check.refused("7 granted", ELEMENT, () -> d.grant(0));
        Check.due("25 booked", d.fits(1, 1), false);
        int[][] days = {{1, 2, 1}, {1, 3, 0}, {4, 4, 0}, {2, 8, 0}, {5, 6, 0}, {6, 9, 1}};
        for (int[] e : days) {
            int id = d.request(0, 36, 0, e[0], e[1]);
            Check.due("25 days " + e[0] + " to " + e[1], d.fits(id, 1), e[2] == 1);
            d.cancelRequest(id);
        }
        d.passDays(3);
        int late = d.request(0, 36, 0, 5, 8);
        Check.due("25 due on the first day", d.fits(late, 1), false);
        int later = d.request(0, 36, 0, 6, 8);
        Check.due("25 due before the first day", d.fits(later, 1), true);
        Check.due("25 a request that has come", d.fits(1, 0), true);
        Check.due("7 lent now, free by then", d.grant(later), 1);
    }

    private static void wornOut() {
        HammerDepot d = withHammers(30);
        d.request(1, 30, 0, 1, 1);
        d.grant(0);
        d.request(1, 30, 0, 5, 5);
        d.grant(1);
        d.passDays(1);
        d.giveBack(0, 999, 0);
        d.request(1, 30, 0, 9, 9);
        Check.due("25 wear 99", d.fits(2, 0), true);
        d.passDays(4);
        Check.due("14 wear", d.wear(0), 99);
        Check.due("9 worn out", d.giveBack(0, 10, 0), 100);
        Check.due("25 worn out", d.fits(2, 0), false);
        Check.refused("26 worn out", ELEMENT, () -> d.bestHammer(2));
        Check.refused("7 worn out", UNSUPPORTED, () -> d.grant(2));
        Check.due("27 worn out", d.mostGrants(), 0);
        Check.due("28 worn out", d.mostGrantsBySets(), 0);
    }

    private static void bookingOutlastsWear() {
        HammerDepot d = withHammers(30);
        d.request(1, 30, 0, 1, 1);
        d.request(2, 30, 0, 3, 4);
        d.grant(0);
        d.grant(1);
        d.passDays(1);
        Check.due("worn out", d.giveBack(0, 999, 2), 99);
        d.undo();
        Check.due("21 one is left", d.bookings(0), 1);
        d.giveBack(0, 999, 2);
        Check.due("11 still lent", d.passDays(2), 1);
        Check.due("16 borrower", d.borrower(0), 2);
    }

    private static void bestHammer() {
        HammerDepot d = withHammers(28, 34, 32, 30, 28);
        d.request(1, 31, 4, 1, 1);
        Check.due("26 least difference, lowest index", d.bestHammer(0), 2);
        d.grant(0);
        d.passDays(1);
        d.giveBack(2, 10, 0);
        d.request(1, 31, 4, 9, 9);
        Check.due("26 least wear", d.bestHammer(1), 3);
        d.request(1, 31, 3, 9, 9);
        d.grant(1);
        Check.due("26 less difference goes before less wear", d.bestHammer(2), 2);
        d.grant(2);
        d.request(1, 31, 3, 9, 9);
        Check.due("26 lowest index", d.bestHammer(3), 0);
    }

    private static void grant() {
        HammerDepot d = withHammers(30, 40);
        d.request(4, 30, 0, 2, 6);
        d.request(5, 50, 3, 2, 2);
        d.request(5, 40, 0, 3, 3);
        Check.refused("7 id 3", ELEMENT, () -> d.grant(3));
        Check.refused("7 none fits", UNSUPPORTED, () -> d.grant(1));
        Check.due("7 index", d.grant(0), 0);
        Check.due("37 coins", d.coins(), 25);
        Check.due("38 coinsByAccounts", d.coinsByAccounts(), 25);
        Check.due("23 requestCount", d.requestCount(), 2);
        Check.due("21 bookings", d.bookings(0), 1);
        Check.due("21 bookings", d.bookings(1), 0);
        Check.refused("21 hammer 2", INDEX, () -> d.bookings(2));
        Check.refused("21 hammer -1", INDEX, () -> d.bookings(-1));
        for (int day = 1; day <= 7; day++) {
            Check.due("22 day " + day, d.isBooked(0, day), day >= 2 && day <= 6);
            Check.due("22 other", d.isBooked(1, day), false);
        }
        Check.due("22 any day", d.isBooked(0, Integer.MIN_VALUE), false);
        Check.due("22 any day", d.isBooked(0, Integer.MAX_VALUE), false);
        Check.refused("22 hammer 2", INDEX, () -> d.isBooked(2, 2));
        Check.refused("22 hammer -1", INDEX, () -> d.isBooked(-1, 2));
        d.passDays(2);
        Check.due("21 begun", d.bookings(0), 0);
        Check.due("22 begun", d.isBooked(0, 3), false);
        Check.refused("7 has come before none fits", STATE, () -> d.grant(1));
        d.passDays(1);
        Check.refused("7 has come", STATE, () -> d.grant(2));
        Check.due("26 a request that has come", d.bestHammer(2), 1);
    }

    private static void grantMost() {
        HammerDepot d = withHammers(30, 32, 34);
        d.request(1, 31, 1, 5, 5);
        d.request(2, 32, 2, 5, 6);
        d.request(3, 30, 0, 5, 7);
        d.request(4, 30, 0, 5, 5);
        d.request(5, 30, 0, 6, 6);
        Check.due("27 mostGrants", d.mostGrants(), 3);
        Check.due("28 mostGrantsBySets", d.mostGrantsBySets(), 3);
        Check.due("8 granted", d.grantMost(), 3);
        d.passDays(5);
        Check.due("8 id 0 gets hammer 1", d.borrower(1), 1);
        Check.due("8 id 1 gets hammer 2", d.borrower(2), 2);
        Check.due("8 id 2 gets hammer 0", d.borrower(0), 3);
        Check.due("8 coins", d.coins(), 26);
        Check.due("8 waiting", d.requestCount(), 2);
        Check.due("8 id 3 waits", d.requestAt(0), 3);
        Check.due("8 id 4 waits", d.requestAt(1), 4);
        Check.due("8 those that have come are cancelled", d.grantMost(), 0);
        Check.due("8 id 4 waits on", d.requestCount(), 1);
        Check.due("8 id 4 waits on", d.requestAt(0), 4);
        d.passDays(1);
        Check.due("8 nothing left", d.grantMost(), 0);
        Check.due("8 nothing left", d.requestCount(), 0);
    }

    private static void grantMostInOrder() {
        HammerDepot d = withHammers(30, 30, 42);
        for (int i = 0; i < 4; i++) {
            d.request(i, 30, 0, 3, 3);
        }
        d.request(7, 36, 6, 3, 3);
        Check.due("27 mostGrants", d.mostGrants(), 3);
        Check.due("8 granted", d.grantMost(), 3);
        d.passDays(3);
        Check.due("8 first id, first hammer", d.borrower(0), 0);
        Check.due("8 second id, second hammer", d.borrower(1), 1);
        Check.due("8 last id, last hammer", d.borrower(2), 7);
        Check.due("8 the first ones that can go on", d.requestAt(0), 2);
    }

    private static void mostGrantsCountsAllThatWait() {
        HammerDepot d = withHammers(30, 31);
        d.request(0, 30, 1, 1, 1);
        d.request(0, 30, 1, 4, 4);
        d.passDays(2);
        Check.due("27 with one that has come", d.mostGrants(), 2);
        Check.due("28 with one that has come", d.mostGrantsBySets(), 2);
        Check.due("8 without", d.grantMost(), 1);
        Check.due("8 first hammer, not the best", d.bookings(0), 1);
        Check.due("27 none wait", d.mostGrants(), 0);
        Check.due("28 none wait", d.mostGrantsBySets(), 0);
    }

    private static void bookingsWithoutEnd() {
        HammerDepot d = withHammers(0, 0, 0, 0, 0, 0, 0, 0, 0, 0, 0, 0);
        for (int round = 0; round < 40; round++) {
            for (int i = 0; i < 8; i++) {
                d.request(i, 0, 0, round + 1, round + 1);
            }
            Check.due("8 round " + round, d.grantMost(), 8);
        }
        for (int h = 0; h < 8; h++) {
            Check.due("21 one for each day", d.bookings(h), 40);
        }
        Check.due("21 none", d.bookings(8), 0);
        Check.due("11 all begin", d.passDays(30), 8);
        Check.due("11 and are broken", d.brokenTotal(), 29 * 8);
    }

    public static void main(String[] args) {
        request();
        cancelRequest();
        movedUp();
        fits();
        wornOut();
        bookingOutlastsWear();
        bestHammer();
        grant();
        grantMost();
        grantMostInOrder();
        mostGrantsCountsAllThatWait();
        bookingsWithoutEnd();
        Check.end();
    }
}
