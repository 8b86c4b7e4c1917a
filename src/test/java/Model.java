import java.util.ArrayDeque;
import java.util.ArrayList;
import java.util.Comparator;
import java.util.HashMap;
import java.util.List;
import java.util.Map;
import java.util.NoSuchElementException;
import java.util.regex.Matcher;
import java.util.regex.Pattern;

/**
 * The document once more, written for plainness alone: lists, deep copies, tries of everything and a regular
 * expression for scripts. It shares no code with HammerDepot, so that the two can be compared.
 */
final class Model {
    static final class Hammer {
        int pitch;
        int wear;
        int rack;
        int place;
        int borrower;
        int due;
        boolean lent;

        Hammer copy() {
            Hammer h = new Hammer();
            h.pitch = pitch;
            h.wear = wear;
            h.rack = rack;
            h.place = place;
            h.borrower = borrower;
            h.due = due;
            h.lent = lent;
            return h;
        }
    }

    record Request(int id, int borrower, int pitch, int tolerance, int first, int last) {
    }

    record Booking(int hammer, int borrower, int first, int last) {
    }

    static final class World {
        List<Hammer> hammers = new ArrayList<>();
        List<Request> requests = new ArrayList<>();
        List<Booking> bookings = new ArrayList<>();
        int nextId;
        int day;
        int coins = 20;
        int broken;
        int lentTotal;

        World copy() {
            World w = new World();
            for (Hammer h : hammers) {
                w.hammers.add(h.copy());
            }
            w.requests.addAll(requests);
            w.bookings.addAll(bookings);
            w.nextId = nextId;
            w.day = day;
            w.coins = coins;
            w.broken = broken;
            w.lentTotal = lentTotal;
            return w;
        }
    }

    private static final String NUMBER = "[0-9]{1,3}";
    private static final String COMMAND = ("(hammer N D|move N D|swap DDD|ask D N~N N-N|drop N|grant N|most|back N N D|face N|day( N)?)")
            .replace("N", NUMBER).replace("D", "[0-9]");
    private static final Pattern FORM = Pattern.compile(COMMAND + "(;" + COMMAND + ")*");

    World w = new World();
    private World snapshot;
    private final ArrayDeque<World> past = new ArrayDeque<>();
    private boolean inScript;
    String buffer = "";
    String output = "";
    private Integer errorAt;
    private Integer failedAt;

    private void changed(World before) {
        if (!inScript) {
            past.push(before);
            if (past.size() > 8) {
                past.removeLast();
            }
        }
    }

    private Hammer hammer(int index) {
        if (index < 0 || index >= w.hammers.size()) {
            throw new IndexOutOfBoundsException();
        }
        return w.hammers.get(index);
    }

    private static void rack(int rack) {
        if (rack < 0 || rack > 2) {
            throw new IndexOutOfBoundsException();
        }
    }

    private int contentOf(int rack, int place) {
        for (int i = 0; i < w.hammers.size(); i++) {
            Hammer h = w.hammers.get(i);
            if (!h.lent && h.rack == rack && h.place == place) {
                return i;
            }
        }
        return -1;
    }

    private int freePlace(int rack) {
        for (int place = 0; place < 6; place++) {
            if (contentOf(rack, place) < 0) {
                return place;
            }
        }
        return -1;
    }

    private Request waiting(int id) {
        for (Request r : w.requests) {
            if (r.id == id) {
                return r;
            }
        }
        throw new NoSuchElementException();
    }

    int addHammer(int pitch, int rack) {
        if (pitch < 0 || pitch > 60) {
            throw new IllegalArgumentException();
        }
        rack(rack);
        if (w.hammers.size() == 12 || freePlace(rack) < 0) {
            throw new IllegalStateException();
        }
        changed(w.copy());
        Hammer h = new Hammer();
        h.pitch = pitch;
        h.rack = rack;
        h.place = freePlace(rack);
        w.hammers.add(h);
        return w.hammers.size() - 1;
    }

    int moveHammer(int hammer, int rack) {
        Hammer h = hammer(hammer);
        rack(rack);
        if (h.lent || h.rack == rack || freePlace(rack) < 0) {
            throw new IllegalStateException();
        }
        changed(w.copy());
        h = hammer(hammer);
        int place = freePlace(rack);
        h.rack = rack;
        h.place = place;
        return place;
    }

    int swapPlaces(int rack, int first, int second) {
        rack(rack);
        if (first < 0 || first > 5 || second < 0 || second > 5) {
            throw new IndexOutOfBoundsException();
        }
        if (first == second) {
            throw new IllegalArgumentException();
        }
        changed(w.copy());
        int a = contentOf(rack, first);
        int b = contentOf(rack, second);
        if (a >= 0) {
            w.hammers.get(a).place = second;
        }
        if (b >= 0) {
            w.hammers.get(b).place = first;
        }
        return swapsToSort(rack);
    }

    int request(int borrower, int pitch, int tolerance, int first, int last) {
        if (borrower < 0 || borrower > 9 || pitch < 0 || pitch > 60 || tolerance < 0 || tolerance > 12
                || first <= w.day || last < first || (long) last > (long) w.day + 40) {
            throw new IllegalArgumentException();
        }
        if (w.requests.size() == 8) {
            throw new IllegalStateException();
        }
        changed(w.copy());
        w.requests.add(new Request(w.nextId, borrower, pitch, tolerance, first, last));
        return w.nextId++;
    }

    int cancelRequest(int id) {
        Request r = waiting(id);
        changed(w.copy());
        w.requests.remove(r);
        return w.requests.size();
    }

    private void book(Request r, int hammer) {
        w.requests.remove(r);
        w.bookings.add(new Booking(hammer, r.borrower, r.first, r.last));
        w.coins += r.last - r.first + 1;
    }

    int grant(int id) {
        Request r = waiting(id);
        if (r.first <= w.day) {
            throw new IllegalStateException();
        }
        int best = best(r);
        if (best < 0) {
            throw new UnsupportedOperationException();
        }
        changed(w.copy());
        book(r, best);
        return best;
    }

    int grantMost() {
        changed(w.copy());
        w.requests.removeIf(r -> r.first <= w.day);
        List<Request> visited = new ArrayList<>(w.requests);
        boolean[] given = new boolean[12];
        int most = most(visited, 0, given, new HashMap<>());
        int granted = 0;
        for (int i = 0; i < visited.size(); i++) {
            for (int h = 0; h < w.hammers.size(); h++) {
                if (given[h] || !fit(visited.get(i), h)) {
                    continue;
                }
                given[h] = true;
                if (granted + 1 + most(visited, i + 1, given, new HashMap<>()) == most) {
                    book(visited.get(i), h);
                    granted++;
                    break;
                }
                given[h] = false;
            }
        }
        return granted;
    }

    /** Tries every hammer, and none, for every request from i on. */
    private int most(List<Request> requests, int i, boolean[] given, Map<String, Integer> known) {
        if (i == requests.size()) {
            return 0;
        }
        String key = i + java.util.Arrays.toString(given);
        Integer answer = known.get(key);
        if (answer != null) {
            return answer;
        }
        int best = most(requests, i + 1, given, known);
        for (int h = 0; h < w.hammers.size(); h++) {
            if (!given[h] && fit(requests.get(i), h)) {
                given[h] = true;
                best = Math.max(best, 1 + most(requests, i + 1, given, known));
                given[h] = false;
            }
        }
        known.put(key, best);
        return best;
    }

    int mostGrants() {
        return most(w.requests, 0, new boolean[12], new HashMap<>());
    }

    int giveBack(int hammer, int strikes, int rack) {
        Hammer h = hammer(hammer);
        rack(rack);
        if (strikes < 0 || strikes > 999) {
            throw new IllegalArgumentException();
        }
        if (!h.lent || freePlace(rack) < 0) {
            throw new IllegalStateException();
        }
        changed(w.copy());
        int place = freePlace(rack);
        h.wear = Math.min(100, h.wear + strikes / 10);
        h.lent = false;
        h.rack = rack;
        h.place = place;
        if (w.day > h.due) {
            w.coins += 2 * (w.day - h.due);
        }
        return h.wear;
    }

    int renewFace(int hammer) {
        Hammer h = hammer(hammer);
        if (h.lent) {
            throw new IllegalStateException();
        }
        int cost = h.wear / 5 + (h.wear % 5 > 0 ? 1 : 0);
        if (w.coins < cost) {
            throw new UnsupportedOperationException();
        }
        changed(w.copy());
        h.wear = 0;
        w.coins -= cost;
        return cost;
    }

    int passDays(int days) {
        if (days < 1 || days > 30) {
            throw new IllegalArgumentException();
        }
        changed(w.copy());
        int lent = 0;
        for (int i = 0; i < days; i++) {
            w.day++;
            for (Booking b : new ArrayList<>(w.bookings)) {
                if (b.first == w.day) {
                    Hammer h = w.hammers.get(b.hammer);
                    if (h.lent) {
                        w.broken++;
                    } else {
                        h.lent = true;
                        h.borrower = b.borrower;
                        h.due = b.last;
                        lent++;
                        w.lentTotal++;
                    }
                    w.bookings.remove(b);
                }
            }
        }
        return lent;
    }

    private boolean fit(Request r, int hammer) {
        Hammer h = w.hammers.get(hammer);
        if (Math.abs(h.pitch - r.pitch) > r.tolerance || h.wear == 100 || h.lent && h.due >= r.first) {
            return false;
        }
        for (int day = r.first; day <= r.last; day++) {
            if (isBooked(hammer, day)) {
                return false;
            }
        }
        return true;
    }

    private int best(Request r) {
        return java.util.stream.IntStream.range(0, w.hammers.size()).filter(h -> fit(r, h)).boxed()
                .min(Comparator.<Integer>comparingInt(h -> Math.abs(w.hammers.get(h).pitch - r.pitch))
                        .thenComparingInt(h -> w.hammers.get(h).wear).thenComparingInt(h -> h))
                .orElse(-1);
    }

    int hammerCount() {
        return w.hammers.size();
    }

    int pitch(int hammer) {
        return hammer(hammer).pitch;
    }

    int wear(int hammer) {
        return hammer(hammer).wear;
    }

    boolean isLent(int hammer) {
        return hammer(hammer).lent;
    }

    private Hammer lent(int hammer, boolean lent) {
        Hammer h = hammer(hammer);
        if (h.lent != lent) {
            throw new NoSuchElementException();
        }
        return h;
    }

    int borrower(int hammer) {
        return lent(hammer, true).borrower;
    }

    int dueDay(int hammer) {
        return lent(hammer, true).due;
    }

    int rackOf(int hammer) {
        return lent(hammer, false).rack;
    }

    int placeOf(int hammer) {
        return lent(hammer, false).place;
    }

    int hammerAt(int rack, int place) {
        rack(rack);
        if (place < 0 || place > 5) {
            throw new IndexOutOfBoundsException();
        }
        if (contentOf(rack, place) < 0) {
            throw new NoSuchElementException();
        }
        return contentOf(rack, place);
    }

    int bookings(int hammer) {
        hammer(hammer);
        return (int) w.bookings.stream().filter(b -> b.hammer == hammer).count();
    }

    boolean isBooked(int hammer, int day) {
        hammer(hammer);
        return w.bookings.stream().anyMatch(b -> b.hammer == hammer && b.first <= day && day <= b.last);
    }

    int requestCount() {
        return w.requests.size();
    }

    int requestAt(int position) {
        if (position < 0 || position >= w.requests.size()) {
            throw new NoSuchElementException();
        }
        return w.requests.get(position).id;
    }

    boolean fits(int request, int hammer) {
        Request r = waiting(request);
        hammer(hammer);
        return fit(r, hammer);
    }

    int bestHammer(int request) {
        int best = best(waiting(request));
        if (best < 0) {
            throw new NoSuchElementException();
        }
        return best;
    }

    private static int[] sound(int pitch) {
        int[] sound = new int[85];
        sound[pitch] = 8;
        sound[pitch + 12] = 4;
        sound[pitch + 19] = 2;
        sound[pitch + 24] = 1;
        return sound;
    }

    int loudness(int rack, int pitch) {
        rack(rack);
        int sum = 0;
        for (Hammer h : w.hammers) {
            if (!h.lent && h.rack == rack && pitch >= 0 && pitch < 85) {
                sum += sound(h.pitch)[pitch];
            }
        }
        return sum;
    }

    int loudestPitch(int rack) {
        rack(rack);
        if (w.hammers.stream().noneMatch(h -> !h.lent && h.rack == rack)) {
            throw new NoSuchElementException();
        }
        return java.util.stream.IntStream.range(0, 85).boxed()
                .max(Comparator.<Integer>comparingInt(p -> loudness(rack, p)).thenComparing(Comparator.reverseOrder())).get();
    }

    int consonance(int first, int second) {
        int[] a = sound(hammer(first).pitch);
        int[] b = sound(hammer(second).pitch);
        int sum = 0;
        for (int p = 0; p < 85; p++) {
            sum += Math.min(a[p], b[p]);
        }
        return sum;
    }

    int bestChord(int size) {
        if (size < 1 || size > 5) {
            throw new IllegalArgumentException();
        }
        List<Integer> there = new ArrayList<>();
        for (int h = 0; h < w.hammers.size(); h++) {
            if (!w.hammers.get(h).lent) {
                there.add(h);
            }
        }
        if (there.size() < size) {
            throw new NoSuchElementException();
        }
        return chord(there, 0, new ArrayList<>(), size);
    }

    private int chord(List<Integer> there, int from, List<Integer> chosen, int size) {
        if (chosen.size() == size) {
            int sum = 0;
            for (int i : chosen) {
                for (int j : chosen) {
                    sum += i < j ? consonance(i, j) : 0;
                }
            }
            return sum;
        }
        int best = -1;
        for (int i = from; i < there.size(); i++) {
            chosen.add(there.get(i));
            best = Math.max(best, chord(there, i + 1, chosen, size));
            chosen.remove(chosen.size() - 1);
        }
        return best;
    }

    private static final Map<String, Integer> SWAPS = new HashMap<>();

    /** The distance in the graph of arrangements, from the sorted one outwards. */
    int swapsToSort(int rack) {
        rack(rack);
        List<Integer> sorted = new ArrayList<>();
        for (int place = 0; place < 6; place++) {
            if (contentOf(rack, place) >= 0) {
                sorted.add(contentOf(rack, place));
            }
        }
        sorted.sort(Comparator.<Integer>comparingInt(h -> w.hammers.get(h).pitch).thenComparingInt(h -> h));
        StringBuilder now = new StringBuilder();
        StringBuilder goal = new StringBuilder();
        for (int place = 0; place < 6; place++) {
            int content = contentOf(rack, place);
            now.append(content < 0 ? '-' : (char) ('a' + sorted.indexOf(content)));
            goal.append(place < sorted.size() ? (char) ('a' + place) : '-');
        }
        if (!SWAPS.containsKey(goal.toString())) {
            spread(goal.toString());
        }
        return SWAPS.get(now.toString());
    }

    private static void spread(String goal) {
        ArrayDeque<String> queue = new ArrayDeque<>();
        SWAPS.put(goal, 0);
        queue.add(goal);
        while (!queue.isEmpty()) {
            String now = queue.remove();
            for (int a = 0; a < 6; a++) {
                for (int b = 0; b < a; b++) {
                    StringBuilder next = new StringBuilder(now);
                    next.setCharAt(a, now.charAt(b));
                    next.setCharAt(b, now.charAt(a));
                    if (SWAPS.putIfAbsent(next.toString(), SWAPS.get(now) + 1) == null) {
                        queue.add(next.toString());
                    }
                }
            }
        }
    }

    int hammerByWear(int rank) {
        List<Integer> all = new ArrayList<>();
        for (int h = 0; h < w.hammers.size(); h++) {
            all.add(h);
        }
        all.sort(Comparator.<Integer>comparingInt(h -> -w.hammers.get(h).wear).thenComparingInt(h -> w.hammers.get(h).pitch));
        if (rank < 0 || rank >= all.size()) {
            throw new NoSuchElementException();
        }
        return all.get(rank);
    }

    double meanWear() {
        if (w.hammers.isEmpty()) {
            throw new ArithmeticException();
        }
        return (double) w.hammers.stream().mapToInt(h -> h.wear).sum() / (double) w.hammers.size();
    }

    float lentShare() {
        if (w.hammers.isEmpty()) {
            throw new ArithmeticException();
        }
        return (float) w.hammers.stream().filter(h -> h.lent).count() / (float) w.hammers.size();
    }

    int renderRack(int rack) {
        rack(rack);
        List<String> parts = new ArrayList<>();
        for (int place = 0; place < 6; place++) {
            parts.add(contentOf(rack, place) < 0 ? "-" : String.valueOf(contentOf(rack, place)));
        }
        output = String.join(",", parts);
        return output.length();
    }

    int renderHammer(int hammer) {
        Hammer h = hammer(hammer);
        output = hammer + "p" + h.pitch + "w" + h.wear + (h.lent ? "@" + h.borrower + "<" + h.due : "");
        return output.length();
    }

    char outputAt(int index) {
        if (index < 0 || index >= output.length()) {
            throw new IndexOutOfBoundsException();
        }
        return output.charAt(index);
    }

    int type(char c) {
        if (c < 32 || c > 126) {
            throw new IllegalArgumentException();
        }
        if (buffer.length() == 60) {
            throw new IllegalStateException();
        }
        buffer += c;
        return buffer.length();
    }

    /** The error position of a text, or -1 if it has the form. */
    static int errorIn(String text) {
        if (FORM.matcher(text).matches()) {
            return -1;
        }
        for (int end = 1; end <= text.length(); end++) {
            Matcher m = FORM.matcher(text.substring(0, end));
            if (!m.matches() && !m.hitEnd()) {
                return end - 1;
            }
        }
        return text.length();
    }

    int runScript() {
        String script = buffer;
        buffer = "";
        int error = errorIn(script);
        if (error >= 0) {
            errorAt = error;
            throw new IllegalArgumentException();
        }
        World before = w.copy();
        String[] commands = script.split(";");
        for (int i = 0; i < commands.length; i++) {
            inScript = true;
            try {
                command(commands[i].split("[ ~-]"));
            } catch (RuntimeException e) {
                inScript = false;
                w = before;
                failedAt = i;
                throw new IllegalStateException();
            }
            inScript = false;
        }
        changed(before);
        return commands.length;
    }

    private void command(String[] words) {
        int[] n = new int[5];
        for (int i = 1; i < words.length; i++) {
            n[i - 1] = Integer.parseInt(words[i]);
        }
        switch (words[0]) {
            case "hammer" -> addHammer(n[0], n[1]);
            case "move" -> moveHammer(n[0], n[1]);
            case "swap" -> swapPlaces(n[0] / 100, n[0] / 10 % 10, n[0] % 10);
            case "ask" -> request(n[0], n[1], n[2], n[3], n[4]);
            case "drop" -> cancelRequest(n[0]);
            case "grant" -> grant(n[0]);
            case "most" -> grantMost();
            case "back" -> giveBack(n[0], n[1], n[2]);
            case "face" -> renewFace(n[0]);
            default -> passDays(words.length == 1 ? 1 : n[0]);
        }
    }

    int errorPosition() {
        if (errorAt == null) {
            throw new NoSuchElementException();
        }
        return errorAt;
    }

    int failedCommand() {
        if (failedAt == null) {
            throw new NoSuchElementException();
        }
        return failedAt;
    }

    int undo() {
        if (past.isEmpty()) {
            throw new IllegalStateException();
        }
        w = past.pop();
        return past.size();
    }

    int save() {
        snapshot = w.copy();
        return w.hammers.size();
    }

    int restore() {
        if (snapshot == null) {
            throw new IllegalStateException();
        }
        w = snapshot.copy();
        past.clear();
        return w.hammers.size();
    }
}
