/** Promises 9 to 11, 16, 17 and 37 to 41: days, strikes, faces and coins. */
public final class DaysTest {
    private static final Class<IndexOutOfBoundsException> INDEX = IndexOutOfBoundsException.class;
    private static final Class<IllegalArgumentException> ARGUMENT = IllegalArgumentException.class;
    private static final Class<IllegalStateException> STATE = IllegalStateException.class;

    private static void book(HammerDepot d, int borrower, int pitch, int firstDay, int lastDay) {
        d.grant(d.request(borrower, pitch, 0, firstDay, lastDay));
    }

    private static void passDays() {
        HammerDepot d = new HammerDepot();
        d.addHammer(10, 0);
        d.addHammer(20, 0);
        for (int days : new int[] {0, -1, 31, Integer.MAX_VALUE, Integer.MIN_VALUE}) {
            Check.refused("11 days " + days, ARGUMENT, () -> d.passDays(days));
        }
        Check.due("41 day", d.day(), 0);
        book(d, 3, 10, 2, 4);
        book(d, 4, 20, 3, 3);
        book(d, 5, 10, 6, 6);
        book(d, 6, 20, 5, 7);
        Check.due("11 before the first day", d.passDays(1), 0);
        Check.due("41 day", d.day(), 1);
        Check.due("11 two begin", d.passDays(2), 2);
        Check.due("16 borrower", d.borrower(0), 3);
        Check.due("17 dueDay", d.dueDay(0), 4);
        Check.due("16 borrower", d.borrower(1), 4);
        Check.due("17 dueDay", d.dueDay(1), 3);
        d.giveBack(1, 0, 2);
        int before = d.coins();
        Check.due("11 one is lent, one broken", d.passDays(3), 1);
        Check.due("39 brokenTotal", d.brokenTotal(), 1);
        Check.due("40 lentTotal", d.lentTotal(), 3);
        Check.due("11 coins are not paid back", d.coins(), before);
        Check.due("11 the broken booking is gone", d.bookings(0), 0);
        Check.due("16 borrower of before", d.borrower(0), 3);
        Check.due("16 borrower", d.borrower(1), 6);
        Check.due("11 thirty", d.passDays(30), 0);
        Check.due("41 day", d.day(), 36);
        Check.due("11 lent until it is given back", d.isLent(0), true);
    }

    private static void giveBack() {
        HammerDepot d = new HammerDepot();
        d.addHammer(10, 0);
        d.addHammer(20, 0);
        book(d, 1, 10, 1, 3);
        d.passDays(1);
        Check.refused("9 hammer 2", INDEX, () -> d.giveBack(2, -1, 0));
        Check.refused("9 hammer -1", INDEX, () -> d.giveBack(-1, 0, 0));
        Check.refused("9 rack 3", INDEX, () -> d.giveBack(0, 1000, 3));
        Check.refused("9 rack -1", INDEX, () -> d.giveBack(0, 0, -1));
        Check.refused("9 strikes -1", ARGUMENT, () -> d.giveBack(0, -1, 0));
        Check.refused("9 strikes 1000", ARGUMENT, () -> d.giveBack(0, 1000, 0));
        Check.refused("9 strikes before not lent", ARGUMENT, () -> d.giveBack(1, 1000, 0));
        Check.refused("9 not lent", STATE, () -> d.giveBack(1, 0, 0));
        for (int i = 0; i < 6; i++) {
            d.addHammer(30, 2);
        }
        Check.refused("9 full rack", STATE, () -> d.giveBack(0, 0, 2));
        Check.due("9 wear, rounded down", d.giveBack(0, 19, 0), 1);
        Check.due("9 lowest place", d.placeOf(0), 0);
        Check.due("9 not late", d.coins(), 23);
        Check.refused("9 again", STATE, () -> d.giveBack(0, 0, 0));
    }

    private static void late() {
        HammerDepot d = new HammerDepot();
        d.addHammer(10, 0);
        book(d, 1, 10, 1, 3);
        d.passDays(3);
        Check.due("9 strikes 9", d.giveBack(0, 9, 1), 0);
        Check.due("9 on the due day", d.coins(), 23);
        d.undo();
        d.passDays(4);
        Check.due("9 strikes 999", d.giveBack(0, 999, 1), 99);
        Check.due("9 four days late", d.coins(), 31);
        Check.due("38 coinsByAccounts", d.coinsByAccounts(), 31);
        Check.due("9 rack", d.rackOf(0), 1);
        book(d, 1, 10, 8, 8);
        d.passDays(1);
        Check.due("9 not above 100", d.giveBack(0, 500, 1), 100);
    }

    private static void renewFace() {
        HammerDepot d = new HammerDepot();
        d.addHammer(10, 0);
        d.addHammer(20, 0);
        Check.refused("10 hammer 2", INDEX, () -> d.renewFace(2));
        Check.refused("10 hammer -1", INDEX, () -> d.renewFace(-1));
        Check.due("10 no wear", d.renewFace(0), 0);
        book(d, 1, 10, 1, 1);
        book(d, 1, 20, 1, 1);
        d.passDays(1);
        Check.refused("10 lent", STATE, () -> d.renewFace(0));
        d.giveBack(0, 999, 0);
        d.giveBack(1, 110, 0);
        Check.due("37 coins", d.coins(), 22);
        Check.due("10 rounded up", d.renewFace(1), 3);
        Check.due("14 wear", d.wear(1), 0);
        Check.due("37 coins", d.coins(), 19);
        Check.due("38 coinsByAccounts", d.coinsByAccounts(), 19);
        Check.refused("10 too few coins", UnsupportedOperationException.class, () -> d.renewFace(0));
        Check.due("14 wear", d.wear(0), 99);
        book(d, 1, 20, 2, 2);
        Check.due("10 all coins", d.renewFace(0), 20);
        Check.due("37 coins", d.coins(), 0);
        Check.due("38 coinsByAccounts", d.coinsByAccounts(), 0);
        Check.due("10 for nothing", d.renewFace(0), 0);
    }

    private static void roundedUp() {
        int[][] costs = {{10, 1}, {50, 1}, {60, 2}, {100, 2}, {119, 3}};
        for (int[] e : costs) {
            HammerDepot d = new HammerDepot();
            d.addHammer(10, 0);
            book(d, 1, 10, 1, 1);
            d.passDays(1);
            d.giveBack(0, e[0], 0);
            Check.due("10 strikes " + e[0], d.renewFace(0), e[1]);
        }
    }

    public static void main(String[] args) {
        passDays();
        giveBack();
        late();
        renewFace();
        roundedUp();
        Check.end();
    }
}
