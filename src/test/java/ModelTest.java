import java.util.ArrayList;
import java.util.List;

/** Compares long runs of calls with the Model, for all promises together. */
public final class ModelTest {
    private static final int RUNS = 600;
    // What a depot answers after so many calls is free.
    private static final int CALLS = 512;

    private final HammerDepot depot = new HammerDepot();
    private final Model model = new Model();
    private final StringBuilder told = new StringBuilder();
    private final int mood;
    private long seed;
    private int calls = 0;
    private boolean failed = false;

    private ModelTest(int run) {
        seed = run * 7919L + 17;
        mood = run % 4;
    }

    /** A fixed sequence of numbers, so that every run of the test is the same. */
    private int below(int bound) {
        seed = seed * 6364136223846793005L + 1442695040888963407L;
        return (int) ((seed >>> 33) % bound);
    }

    private int from(int low, int high) {
        return low + below(high - low + 1);
    }

    private boolean rarely() {
        return below(25) == 0;
    }

    /** Now and then a number far outside of any range, else a number near its edge. */
    private int strange(int near) {
        int[] far = {Integer.MIN_VALUE, Integer.MIN_VALUE + 1, -(1 << 30), 1 << 16, 1 << 30, Integer.MAX_VALUE - 40, Integer.MAX_VALUE};
        return below(2) == 0 ? far[below(far.length)] : near;
    }

    private int hammer() {
        return rarely() ? strange(from(-1, 13)) : below(Math.max(1, model.hammerCount()));
    }

    private int rack() {
        return rarely() ? strange(from(-1, 3)) : below(3);
    }

    private int place() {
        return rarely() ? strange(from(-1, 6)) : below(6);
    }

    private int pitch() {
        if (rarely()) {
            return strange(from(-1, 61));
        }
        return mood == 0 ? below(61) : mood == 1 ? 12 * below(4) : 20 + below(12);
    }

    private int requestId() {
        int count = model.requestCount();
        return rarely() || count == 0 ? strange(from(-1, 40)) : model.requestAt(below(count));
    }

    private int strikes() {
        if (rarely()) {
            return strange(below(2) == 0 ? 1000 : -1);
        }
        // In one mood faces wear off so fast that the coins do not last.
        return mood == 2 ? 500 + below(500) : below(4) == 0 ? below(1000) : below(200);
    }

    private int days() {
        return rarely() ? strange(from(-1, 31)) : mood == 3 ? from(1, 12) : from(1, 4);
    }

    private void same(String what, Check.Call mine, Check.Call due) {
        if (calls == CALLS) {
            return;
        }
        calls++;
        Object got = Check.outcome(mine);
        Object want = Check.outcome(due);
        told.append(what).append(" = ").append(got).append('\n');
        if (!got.equals(want)) {
            failed = true;
            Check.due(what, got, want);
        }
    }

    private void step() {
        int h = hammer();
        int r = rack();
        int q = requestId();
        switch (below(20)) {
            case 0, 1 -> {
                int p = pitch();
                same("addHammer(" + p + ", " + r + ")", () -> depot.addHammer(p, r), () -> model.addHammer(p, r));
            }
            case 2 -> same("moveHammer(" + h + ", " + r + ")", () -> depot.moveHammer(h, r), () -> model.moveHammer(h, r));
            case 3 -> {
                int a = place();
                int b = place();
                same("swapPlaces(" + r + ", " + a + ", " + b + ")", () -> depot.swapPlaces(r, a, b), () -> model.swapPlaces(r, a, b));
            }
            case 4, 5, 6, 7, 8 -> ask();
            case 9 -> same("cancelRequest(" + q + ")", () -> depot.cancelRequest(q), () -> model.cancelRequest(q));
            case 10, 11 -> same("grant(" + q + ")", () -> depot.grant(q), () -> model.grant(q));
            case 12 -> same("grantMost()", depot::grantMost, model::grantMost);
            case 13, 14, 15 -> {
                int s = strikes();
                same("giveBack(" + h + ", " + s + ", " + r + ")", () -> depot.giveBack(h, s, r), () -> model.giveBack(h, s, r));
            }
            case 16 -> same("renewFace(" + h + ")", () -> depot.renewFace(h), () -> model.renewFace(h));
            case 17, 18 -> {
                int d = days();
                same("passDays(" + d + ")", () -> depot.passDays(d), () -> model.passDays(d));
            }
            default -> rareStep();
        }
    }

    private void ask() {
        int b = rarely() ? strange(from(-1, 10)) : below(10);
        int p = pitch();
        int t = rarely() ? strange(from(-1, 13)) : below(mood == 2 ? 4 : 13);
        int first = rarely() ? strange(model.w.day + from(-1, 42)) : model.w.day + from(1, 8);
        int last = rarely() ? strange(model.w.day + from(38, 43)) : first + (rarely() ? from(-1, 20) : below(4));
        same("request(" + b + ", " + p + ", " + t + ", " + first + ", " + last + ")",
                () -> depot.request(b, p, t, first, last), () -> model.request(b, p, t, first, last));
    }

    private void rareStep() {
        switch (below(8)) {
            case 0, 1, 2 -> {
                int times = below(10) == 0 ? 10 : 1;
                for (int i = 0; i < times; i++) {
                    same("undo()", depot::undo, model::undo);
                }
            }
            case 3 -> same("save()", depot::save, model::save);
            case 4 -> {
                if (below(3) == 0) {
                    same("restore()", depot::restore, model::restore);
                }
            }
            default -> script();
        }
    }

    private String command() {
        String h = String.valueOf(Math.max(0, hammer()));
        String r = String.valueOf(Math.max(0, rack()));
        String q = String.valueOf(Math.max(0, requestId()));
        int first = model.w.day + from(1, 9);
        return switch (below(10)) {
            case 0 -> "hammer " + Math.max(0, pitch()) + " " + r;
            case 1 -> "move " + h + " " + r;
            case 2 -> "swap " + r + below(7) + below(7);
            case 3, 4 -> "ask " + below(10) + " " + Math.max(0, pitch()) + "~" + below(13) + " " + first + "-" + (first + below(4));
            case 5 -> "grant " + q;
            case 6 -> below(2) == 0 ? "most" : "drop " + q;
            case 7 -> "back " + h + " " + below(300) + " " + r;
            case 8 -> "face " + h;
            default -> below(2) == 0 ? "day" : "day " + from(1, 9);
        };
    }

    private void script() {
        List<String> commands = new ArrayList<>();
        int count = from(1, 4);
        for (int i = 0; i < count; i++) {
            commands.add(command());
        }
        String text = String.join(";", commands);
        if (below(4) == 0) {
            int at = below(text.length() + 1);
            String other = "0 ;9~-mdahxN".substring(below(12));
            text = below(2) == 0 ? text.substring(0, at) : text.substring(0, at) + other.charAt(0) + text.substring(at);
        }
        for (int i = 0; i < text.length(); i++) {
            char c = text.charAt(i);
            same("type('" + c + "')", () -> depot.type(c), () -> model.type(c));
        }
        same("runScript()", depot::runScript, model::runScript);
    }

    private void compareAll() {
        compareNumbers();
        compareRacks();
        compareHammers();
        compareChords();
        compareRequests();
    }

    /** The other way round, so that the last parts get their share of the calls too. */
    private void compareAllBackwards() {
        compareRequests();
        compareChords();
        compareHammers();
        compareRacks();
        compareNumbers();
    }

    private void compareNumbers() {
        same("hammerCount()", depot::hammerCount, model::hammerCount);
        same("requestCount()", depot::requestCount, model::requestCount);
        same("coins()", depot::coins, () -> model.w.coins);
        same("coinsByAccounts()", depot::coinsByAccounts, () -> model.w.coins);
        same("brokenTotal()", depot::brokenTotal, () -> model.w.broken);
        same("lentTotal()", depot::lentTotal, () -> model.w.lentTotal);
        same("day()", depot::day, () -> model.w.day);
        same("mostGrants()", depot::mostGrants, model::mostGrants);
        same("mostGrantsBySets()", depot::mostGrantsBySets, model::mostGrants);
        same("meanWear()", depot::meanWear, model::meanWear);
        same("lentShare()", depot::lentShare, model::lentShare);
        same("errorPosition()", depot::errorPosition, model::errorPosition);
        same("failedCommand()", depot::failedCommand, model::failedCommand);
        same("isConsistent()", depot::isConsistent, () -> true);
    }

    private void compareRacks() {
        for (int i = -1; i <= 3; i++) {
            compareRack(i);
        }
    }

    private void compareHammers() {
        for (int i = -1; i <= model.hammerCount(); i++) {
            compareHammer(i);
        }
    }

    private void compareChords() {
        for (int i = 0; i <= 6; i++) {
            int size = i;
            same("bestChord(" + size + ")", () -> depot.bestChord(size), () -> model.bestChord(size));
            same("bestChordBySets(" + size + ")", () -> depot.bestChordBySets(size), () -> model.bestChord(size));
        }
    }

    private void compareRequests() {
        for (int i = -1; i <= model.requestCount(); i++) {
            int position = i;
            same("requestAt(" + position + ")", () -> depot.requestAt(position), () -> model.requestAt(position));
        }
        compareRequest(requestId());
    }

    private void compareRack(int r) {
        same("swapsToSort(" + r + ")", () -> depot.swapsToSort(r), () -> model.swapsToSort(r));
        same("swapsToSortByCycles(" + r + ")", () -> depot.swapsToSortByCycles(r), () -> model.swapsToSort(r));
        same("loudestPitch(" + r + ")", () -> depot.loudestPitch(r), () -> model.loudestPitch(r));
        int pitch = rarely() ? strange(-1) : from(-2, 90);
        same("loudness(" + r + ", " + pitch + ")", () -> depot.loudness(r, pitch), () -> model.loudness(r, pitch));
        int place = rarely() ? strange(-1) : from(-1, 6);
        same("hammerAt(" + r + ", " + place + ")", () -> depot.hammerAt(r, place), () -> model.hammerAt(r, place));
        same("renderRack(" + r + ")", () -> depot.renderRack(r), () -> model.renderRack(r));
        compareOutput();
    }

    private void compareOutput() {
        for (int i = -1; i <= model.output.length(); i++) {
            int index = i;
            same("outputAt(" + index + ")", () -> depot.outputAt(index), () -> model.outputAt(index));
        }
    }

    private void compareHammer(int h) {
        same("pitch(" + h + ")", () -> depot.pitch(h), () -> model.pitch(h));
        same("wear(" + h + ")", () -> depot.wear(h), () -> model.wear(h));
        same("isLent(" + h + ")", () -> depot.isLent(h), () -> model.isLent(h));
        same("borrower(" + h + ")", () -> depot.borrower(h), () -> model.borrower(h));
        same("dueDay(" + h + ")", () -> depot.dueDay(h), () -> model.dueDay(h));
        same("rackOf(" + h + ")", () -> depot.rackOf(h), () -> model.rackOf(h));
        same("placeOf(" + h + ")", () -> depot.placeOf(h), () -> model.placeOf(h));
        same("bookings(" + h + ")", () -> depot.bookings(h), () -> model.bookings(h));
        same("hammerByWear(" + h + ")", () -> depot.hammerByWear(h), () -> model.hammerByWear(h));
        int other = hammer();
        same("consonance(" + h + ", " + other + ")", () -> depot.consonance(h, other), () -> model.consonance(h, other));
        int day = rarely() ? strange(-1) : model.w.day + from(-1, 12);
        same("isBooked(" + h + ", " + day + ")", () -> depot.isBooked(h, day), () -> model.isBooked(h, day));
        int q = requestId();
        same("fits(" + q + ", " + h + ")", () -> depot.fits(q, h), () -> model.fits(q, h));
        if (below(4) == 0) {
            same("renderHammer(" + h + ")", () -> depot.renderHammer(h), () -> model.renderHammer(h));
            compareOutput();
        }
    }

    private void compareRequest(int q) {
        same("bestHammer(" + q + ")", () -> depot.bestHammer(q), () -> model.bestHammer(q));
    }

    /** Changes for some of the calls, with a look now and then, and a look at everything for the rest. */
    private void go() {
        int changing = from(20, CALLS - 100);
        while (calls < changing && !failed) {
            step();
            if (below(9) == 0) {
                compareHammer(hammer());
            }
            if (below(9) == 0) {
                same("mostGrants()", depot::mostGrants, model::mostGrants);
                compareRequest(requestId());
            }
        }
        if (below(2) == 0) {
            compareAll();
        } else {
            compareAllBackwards();
        }
    }

    public static void main(String[] args) {
        for (int run = 0; run < RUNS; run++) {
            ModelTest test = new ModelTest(run);
            test.go();
            if (test.failed) {
                System.out.println("run " + run + ":\n" + test.told);
                break;
            }
        }
        Check.due("the runs", RUNS, RUNS);
        Check.end();
    }
}
