import java.util.ArrayList;
import java.util.List;

/** Promises 34 and 35: the swaps that sort a rack, for every arrangement of it. */
public final class SortingTest {
    private static void both(String what, HammerDepot d, int rack, int want) {
        Check.due("34 " + what, d.swapsToSort(rack), want);
        Check.due("35 " + what, d.swapsToSortByCycles(rack), want);
    }

    private static void ordinary() {
        HammerDepot d = new HammerDepot();
        both("empty", d, 0, 0);
        d.addHammer(20, 0);
        d.addHammer(10, 0);
        d.addHammer(20, 0);
        both("by pitch", d, 0, 1);
        d.swapPlaces(0, 0, 1);
        both("sorted", d, 0, 0);
        d.swapPlaces(0, 1, 2);
        both("by index", d, 0, 1);
        d.swapPlaces(0, 0, 5);
        both("a gap", d, 0, 2);
        for (int rack : new int[] {-1, 3}) {
            Check.refused("34 rack " + rack, IndexOutOfBoundsException.class, () -> d.swapsToSort(rack));
            Check.refused("35 rack " + rack, IndexOutOfBoundsException.class, () -> d.swapsToSortByCycles(rack));
        }
    }

    /** Puts the hammers with the pitches 0, 1, .. into the given places and compares with the Model. */
    private static void arrangement(List<Integer> places) {
        HammerDepot d = new HammerDepot();
        Model model = new Model();
        for (int h = 0; h < places.size(); h++) {
            d.addHammer(h, 1);
            model.addHammer(h, 1);
        }
        for (int h = 0; h < places.size(); h++) {
            if (d.placeOf(h) != places.get(h)) {
                int place = d.placeOf(h);
                Check.due("4 " + places, d.swapPlaces(1, place, places.get(h)), model.swapPlaces(1, place, places.get(h)));
            }
        }
        both(places.toString(), d, 1, model.swapsToSort(1));
    }

    private static void allArrangements(List<Integer> places) {
        arrangement(places);
        for (int place = 0; place < 6; place++) {
            if (!places.contains(place)) {
                places.add(place);
                allArrangements(places);
                places.remove(places.size() - 1);
            }
        }
    }

    public static void main(String[] args) {
        ordinary();
        allArrangements(new ArrayList<>());
        Check.end();
    }
}
