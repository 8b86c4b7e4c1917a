import java.util.NoSuchElementException;

/** Promises 29 to 33: overtones and chords. */
public final class SoundTest {
    private static final Class<IndexOutOfBoundsException> INDEX = IndexOutOfBoundsException.class;
    private static final Class<IllegalArgumentException> ARGUMENT = IllegalArgumentException.class;
    private static final Class<NoSuchElementException> ELEMENT = NoSuchElementException.class;

    private static HammerDepot withHammers(int... pitches) {
        HammerDepot d = new HammerDepot();
        for (int i = 0; i < pitches.length; i++) {
            d.addHammer(pitches[i], i % 3);
        }
        return d;
    }

    private static void loudness() {
        HammerDepot d = withHammers(60, 0);
        int[][] due = {{60, 8}, {72, 4}, {79, 2}, {84, 1}, {59, 0}, {61, 0}, {85, 0}, {-1, 0}, {0, 0}};
        for (int[] e : due) {
            Check.due("29 pitch " + e[0], d.loudness(0, e[0]), e[1]);
        }
        Check.due("29 low", d.loudness(1, 0), 8);
        Check.due("29 empty", d.loudness(2, 0), 0);
        Check.due("29 any number", d.loudness(0, Integer.MIN_VALUE), 0);
        Check.due("29 any number", d.loudness(0, Integer.MAX_VALUE), 0);
        Check.refused("29 rack 3", INDEX, () -> d.loudness(3, 0));
        Check.refused("29 rack -1", INDEX, () -> d.loudness(-1, 0));
        d.addHammer(48, 0);
        d.addHammer(60, 0);
        Check.due("29 sum", d.loudness(0, 60), 20);
        Check.due("29 sum", d.loudness(0, 72), 9);
    }

    private static void loudestPitch() {
        HammerDepot d = withHammers(7, 60, 30);
        Check.due("30 one", d.loudestPitch(0), 7);
        Check.due("30 one", d.loudestPitch(1), 60);
        d.addHammer(20, 2);
        Check.due("30 lowest of two", d.loudestPitch(2), 20);
        d.addHammer(18, 2);
        Check.due("30 strengthened", d.loudestPitch(2), 30);
        Check.refused("30 rack 3", INDEX, () -> d.loudestPitch(3));
        Check.refused("30 rack -1", INDEX, () -> d.loudestPitch(-1));
        Check.due("30 the lowest pitch of all", withHammers(0).loudestPitch(0), 0);
        d.moveHammer(0, 1);
        Check.refused("30 empty", ELEMENT, () -> d.loudestPitch(0));
    }

    private static void consonance() {
        HammerDepot d = withHammers(20, 32, 39, 44, 27, 25, 21, 20);
        int[] with = {15, 5, 2, 1, 2, 1, 0, 15};
        for (int h = 0; h < 8; h++) {
            Check.due("31 0 and " + h, d.consonance(0, h), with[h]);
            Check.due("31 " + h + " and 0", d.consonance(h, 0), with[h]);
        }
        Check.refused("31 first 8", INDEX, () -> d.consonance(8, 0));
        Check.refused("31 second 8", INDEX, () -> d.consonance(0, 8));
        Check.refused("31 first -1", INDEX, () -> d.consonance(-1, 0));
        Check.refused("31 second -1", INDEX, () -> d.consonance(0, -1));
    }

    private static void bothChords(HammerDepot d, int size, int want) {
        Check.due("32 size " + size, d.bestChord(size), want);
        Check.due("33 size " + size, d.bestChordBySets(size), want);
    }

    private static void neitherChord(HammerDepot d, int size, Class<? extends RuntimeException> want) {
        Check.refused("32 size " + size, want, () -> d.bestChord(size));
        Check.refused("33 size " + size, want, () -> d.bestChordBySets(size));
    }

    private static void chords() {
        HammerDepot d = new HammerDepot();
        neitherChord(d, 0, ARGUMENT);
        neitherChord(d, -1, ARGUMENT);
        neitherChord(d, 6, ARGUMENT);
        neitherChord(d, 1, ELEMENT);
        d.addHammer(3, 0);
        bothChords(d, 1, 0);
        neitherChord(d, 2, ELEMENT);
        d.addHammer(4, 1);
        bothChords(d, 2, 0);
        d.addHammer(12, 2);
        d.addHammer(24, 0);
        d.addHammer(36, 1);
        d.addHammer(12, 2);
        bothChords(d, 2, 15);
        bothChords(d, 3, 25);
        bothChords(d, 4, 32);
        bothChords(d, 5, 32);
        d.grant(d.request(0, 12, 0, 1, 1));
        d.passDays(1);
        bothChords(d, 2, 5);
        bothChords(d, 3, 11);
        bothChords(d, 5, 11);
        neitherChord(d, 6, ARGUMENT);
        d.grant(d.request(0, 24, 0, 2, 2));
        d.passDays(1);
        bothChords(d, 4, 1);
        neitherChord(d, 5, ELEMENT);
    }

    private static void fullChords() {
        HammerDepot d = withHammers(30, 30, 30, 30, 30, 30, 30, 30, 30, 30, 30, 30);
        for (int size = 1; size <= 5; size++) {
            bothChords(d, size, 15 * size * (size - 1) / 2);
        }
    }

    public static void main(String[] args) {
        loudness();
        loudestPitch();
        consonance();
        chords();
        fullChords();
        Check.end();
    }
}
