import java.util.Arrays;
import java.util.NoSuchElementException;

/** A depot that lends hammers of an anvil choir. */
public final class HammerDepot {
    private static final int NONE = -1;
    private static final int RACKS = 3;
    private static final int PLACES = 6;
    private static final int MAX_HAMMERS = 12;
    private static final int MAX_REQUESTS = 8;
    private static final int MAX_BORROWER = 9;
    private static final int MAX_PITCH = 60;
    private static final int MAX_TOLERANCE = 12;
    private static final int MAX_STRIKES = 999;
    private static final int MAX_DAYS = 30;
    private static final int MAX_CHORD = 5;
    private static final int MAX_UNDO = 8;
    private static final int WORN_OUT = 100;
    private static final int FIRST_COINS = 20;
    private static final int DAYS_AHEAD = 40;
    // The bookings of one hammer have no day in common, and all lie in the days ahead.
    private static final int MAX_BOOKINGS = MAX_HAMMERS * DAYS_AHEAD;
    private static final int HIGHEST_OVERTONE = 24;

    // A change answers one of these when it is refused; its true answers are never negative.
    private static final int BAD_ARGUMENT = -1;
    private static final int NO_SUCH_INDEX = -2;
    private static final int WRONG_STATE = -3;
    private static final int NO_SUCH_ELEMENT = -4;
    private static final int NOT_POSSIBLE = -5;

    private final State state = new State();
    private final State snapshot = new State();
    private final History history = new History();
    private final Matching matching = new Matching();
    private final Chords chords = new Chords();
    private final Script script = new Script();
    private final StringBuilder output = new StringBuilder();
    private boolean hasSnapshot = false;
    private int errorAt = NONE;
    private int failedAt = NONE;

    /** Creates a depot without hammers and requests on day 0. */
    public HammerDepot() {
    }

    // Changes

    public int addHammer(int pitch, int rack) throws IllegalArgumentException, IndexOutOfBoundsException, IllegalStateException {
        history.mark(state);
        return settled(state.enlist(pitch, rack));
    }

    public int moveHammer(int hammer, int rack) throws IndexOutOfBoundsException, IllegalStateException {
        history.mark(state);
        return settled(state.carry(hammer, rack));
    }

    public int swapPlaces(int rack, int first, int second) throws IndexOutOfBoundsException, IllegalArgumentException {
        history.mark(state);
        return settled(state.exchange(rack, first, second));
    }

    public int request(int borrower, int pitch, int tolerance, int firstDay, int lastDay) throws IllegalArgumentException, IllegalStateException {
        history.mark(state);
        return settled(state.ask(borrower, pitch, tolerance, firstDay, lastDay));
    }

    public int cancelRequest(int request) throws NoSuchElementException {
        history.mark(state);
        return settled(state.drop(request));
    }

    public int grant(int request) throws NoSuchElementException, IllegalStateException, UnsupportedOperationException {
        history.mark(state);
        return settled(state.grantBest(request));
    }

    public int grantMost() {
        history.mark(state);
        return settled(state.grantTogether(matching));
    }

    public int giveBack(int hammer, int strikes, int rack) throws IndexOutOfBoundsException, IllegalArgumentException, IllegalStateException {
        history.mark(state);
        return settled(state.takeBack(hammer, strikes, rack));
    }

    public int renewFace(int hammer) throws IndexOutOfBoundsException, IllegalStateException, UnsupportedOperationException {
        history.mark(state);
        return settled(state.renew(hammer));
    }

    public int passDays(int days) throws IllegalArgumentException {
        history.mark(state);
        return settled(state.advance(days));
    }

    /** Throws what a refused change stands for; an answer makes the change one that can be undone. */
    private int settled(int answer) {
        if (answer == BAD_ARGUMENT) {
            throw new IllegalArgumentException("an argument is not in its range");
        }
        if (answer == NO_SUCH_INDEX) {
            throw new IndexOutOfBoundsException("there is no such hammer, rack or place");
        }
        if (answer == WRONG_STATE) {
            throw new IllegalStateException("the depot does not allow this now");
        }
        if (answer == NO_SUCH_ELEMENT) {
            throw new NoSuchElementException("no request with this id waits");
        }
        if (answer == NOT_POSSIBLE) {
            throw new UnsupportedOperationException("no hammer fits, or the coins are too few");
        }
        history.keep();
        return answer;
    }

    // Hammers and racks

    public int hammerCount() {
        return state.hammers.size();
    }

    public int pitch(int hammer) throws IndexOutOfBoundsException {
        requireHammer(hammer);
        return state.hammers.pitchOf(hammer);
    }

    public int wear(int hammer) throws IndexOutOfBoundsException {
        requireHammer(hammer);
        return state.hammers.wearOf(hammer);
    }

    public boolean isLent(int hammer) throws IndexOutOfBoundsException {
        requireHammer(hammer);
        return state.hammers.isAway(hammer);
    }

    public int borrower(int hammer) throws IndexOutOfBoundsException, NoSuchElementException {
        requireHammer(hammer);
        requireLent(hammer);
        return state.hammers.borrowerOf(hammer);
    }

    public int dueDay(int hammer) throws IndexOutOfBoundsException, NoSuchElementException {
        requireHammer(hammer);
        requireLent(hammer);
        return state.hammers.dueDayOf(hammer);
    }

    public int rackOf(int hammer) throws IndexOutOfBoundsException, NoSuchElementException {
        requireHammer(hammer);
        requireInRack(hammer);
        return state.hammers.slotOf(hammer) / PLACES;
    }

    public int placeOf(int hammer) throws IndexOutOfBoundsException, NoSuchElementException {
        requireHammer(hammer);
        requireInRack(hammer);
        return state.hammers.slotOf(hammer) % PLACES;
    }

    public int hammerAt(int rack, int place) throws IndexOutOfBoundsException, NoSuchElementException {
        if (!isRack(rack) || !isPlace(place)) {
            throw new IndexOutOfBoundsException("there is no such rack or place");
        }
        int hammer = state.hammers.contentOf(rack, place);
        if (hammer == NONE) {
            throw new NoSuchElementException("the place is free");
        }
        return hammer;
    }

    public int hammerByWear(int rank) throws NoSuchElementException {
        int hammer = state.hammers.byWear(rank);
        if (hammer == NONE) {
            throw new NoSuchElementException("there is no such rank");
        }
        return hammer;
    }

    public double meanWear() throws ArithmeticException {
        int count = state.hammers.size();
        if (count == 0) {
            throw new ArithmeticException("there are no hammers");
        }
        return (double) state.hammers.wearSum() / (double) count;
    }

    public float lentShare() throws ArithmeticException {
        int count = state.hammers.size();
        if (count == 0) {
            throw new ArithmeticException("there are no hammers");
        }
        return (float) state.hammers.awayCount() / (float) count;
    }

    // Requests and bookings

    public int bookings(int hammer) throws IndexOutOfBoundsException {
        requireHammer(hammer);
        return state.bookings.countOf(hammer);
    }

    public boolean isBooked(int hammer, int day) throws IndexOutOfBoundsException {
        requireHammer(hammer);
        return state.bookings.meets(hammer, day, day);
    }

    public int requestCount() {
        return state.requests.size();
    }

    public int requestAt(int position) throws NoSuchElementException {
        if (!state.requests.has(position)) {
            throw new NoSuchElementException("there is no such position");
        }
        return state.requests.idAt(position);
    }

    public boolean fits(int request, int hammer) throws NoSuchElementException, IndexOutOfBoundsException {
        int position = requiredPosition(request);
        requireHammer(hammer);
        return state.suits(position, hammer);
    }

    public int bestHammer(int request) throws NoSuchElementException {
        int hammer = state.bestFor(requiredPosition(request));
        if (hammer == NONE) {
            throw new NoSuchElementException("no hammer fits the request");
        }
        return hammer;
    }

    public int mostGrants() {
        matching.load(state);
        return matching.greatest();
    }

    public int mostGrantsBySets() {
        matching.load(state);
        return matching.greatestBySets();
    }

    // Overtones and sorting

    public int loudness(int rack, int pitch) throws IndexOutOfBoundsException {
        requireRack(rack);
        return Chords.loudnessOf(state.hammers, rack, pitch);
    }

    public int loudestPitch(int rack) throws IndexOutOfBoundsException, NoSuchElementException {
        requireRack(rack);
        if (state.hammers.countIn(rack) == 0) {
            throw new NoSuchElementException("there are no hammers in the rack");
        }
        return Chords.loudestOf(state.hammers, rack);
    }

    public int consonance(int first, int second) throws IndexOutOfBoundsException {
        requireHammer(first);
        requireHammer(second);
        return Chords.between(state.hammers.pitchOf(first), state.hammers.pitchOf(second));
    }

    public int bestChord(int size) throws IllegalArgumentException, NoSuchElementException {
        requireChord(size);
        return chords.best(size);
    }

    public int bestChordBySets(int size) throws IllegalArgumentException, NoSuchElementException {
        requireChord(size);
        return chords.bestBySets(size);
    }

    public int swapsToSort(int rack) throws IndexOutOfBoundsException {
        requireRack(rack);
        return Sorting.leastSwaps(Sorting.codeOf(state.hammers, rack));
    }

    public int swapsToSortByCycles(int rack) throws IndexOutOfBoundsException {
        requireRack(rack);
        return Sorting.swapsByCycles(Sorting.codeOf(state.hammers, rack));
    }

    // Days and coins

    public int coins() {
        return state.coins;
    }

    public int coinsByAccounts() {
        return FIRST_COINS + state.bookingCoins + state.lateCoins - state.faceCosts;
    }

    public int brokenTotal() {
        return state.broken;
    }

    public int lentTotal() {
        return state.lent;
    }

    public int day() {
        return state.day;
    }

    public boolean isConsistent() {
        return mostGrants() == mostGrantsBySets()
                && chordsAgree()
                && swapsAgree()
                && coins() == coinsByAccounts()
                && state.hammers.lieWhereTheyShould();
    }

    private boolean chordsAgree() {
        chords.load(state.hammers);
        for (int size = 1; size <= 3; size++) {
            if (chords.allow(size) && chords.best(size) != chords.bestBySets(size)) {
                return false;
            }
        }
        return true;
    }

    private boolean swapsAgree() {
        for (int rack = 0; rack < RACKS; rack++) {
            int code = Sorting.codeOf(state.hammers, rack);
            if (Sorting.leastSwaps(code) != Sorting.swapsByCycles(code)) {
                return false;
            }
        }
        return true;
    }

    // Output text

    public int renderRack(int rack) throws IndexOutOfBoundsException {
        requireRack(rack);
        output.setLength(0);
        for (int place = 0; place < PLACES; place++) {
            if (place > 0) {
                output.append(',');
            }
            int hammer = state.hammers.contentOf(rack, place);
            if (hammer == NONE) {
                output.append('-');
            } else {
                output.append(hammer);
            }
        }
        return output.length();
    }

    public int renderHammer(int hammer) throws IndexOutOfBoundsException {
        requireHammer(hammer);
        output.setLength(0);
        output.append(hammer);
        output.append('p').append(state.hammers.pitchOf(hammer));
        output.append('w').append(state.hammers.wearOf(hammer));
        if (state.hammers.isAway(hammer)) {
            output.append('@').append(state.hammers.borrowerOf(hammer));
            output.append('<').append(state.hammers.dueDayOf(hammer));
        }
        return output.length();
    }

    public char outputAt(int index) throws IndexOutOfBoundsException {
        if (index < 0 || index >= output.length()) {
            throw new IndexOutOfBoundsException("the output text has no such index");
        }
        return output.charAt(index);
    }

    // Scripts

    public int type(char character) throws IllegalArgumentException, IllegalStateException {
        if (character < 32 || character > 126) {
            throw new IllegalArgumentException("the character code is not between 32 and 126");
        }
        if (script.isFull()) {
            throw new IllegalStateException("the script buffer is full");
        }
        return script.append(character);
    }

    public int runScript() throws IllegalArgumentException, IllegalStateException {
        int error = script.read();
        script.clear();
        if (error != NONE) {
            errorAt = error;
            throw new IllegalArgumentException("the script does not have the required form");
        }
        history.mark(state);
        for (int command = 0; command < script.size(); command++) {
            if (perform(command) < 0) {
                history.revert(state);
                failedAt = command;
                throw new IllegalStateException("a command of the script failed");
            }
        }
        history.keep();
        return script.size();
    }

    private int perform(int command) {
        int first = script.argument(command, 0);
        int second = script.argument(command, 1);
        int third = script.argument(command, 2);
        switch (script.kindOf(command)) {
            case Script.HAMMER:
                return state.enlist(first, second);
            case Script.MOVE:
                return state.carry(first, second);
            case Script.SWAP:
                return state.exchange(first, second, third);
            case Script.ASK:
                return state.ask(first, second, third, script.argument(command, 3), script.argument(command, 4));
            case Script.DROP:
                return state.drop(first);
            case Script.GRANT:
                return state.grantBest(first);
            case Script.MOST:
                return state.grantTogether(matching);
            case Script.BACK:
                return state.takeBack(first, second, third);
            case Script.FACE:
                return state.renew(first);
            default:
                return state.advance(first);
        }
    }

    public int errorPosition() throws NoSuchElementException {
        if (errorAt == NONE) {
            throw new NoSuchElementException("every script had the required form");
        }
        return errorAt;
    }

    public int failedCommand() throws NoSuchElementException {
        if (failedAt == NONE) {
            throw new NoSuchElementException("no script had a failed command");
        }
        return failedAt;
    }

    // Undo and the snapshot

    public int undo() throws IllegalStateException {
        if (history.size() == 0) {
            throw new IllegalStateException("there is nothing to undo");
        }
        history.back(state);
        return history.size();
    }

    public int save() {
        snapshot.copyFrom(state);
        hasSnapshot = true;
        return state.hammers.size();
    }

    public int restore() throws IllegalStateException {
        if (!hasSnapshot) {
            throw new IllegalStateException("there is no snapshot");
        }
        state.copyFrom(snapshot);
        history.forget();
        return state.hammers.size();
    }

    // Tests of arguments

    private static boolean isRack(int rack) {
        return rack >= 0 && rack < RACKS;
    }

    private static boolean isPlace(int place) {
        return place >= 0 && place < PLACES;
    }

    private void requireRack(int rack) {
        if (!isRack(rack)) {
            throw new IndexOutOfBoundsException("there is no such rack");
        }
    }

    private void requireHammer(int hammer) {
        if (!state.hammers.has(hammer)) {
            throw new IndexOutOfBoundsException("there is no such hammer");
        }
    }

    private void requireLent(int hammer) {
        if (!state.hammers.isAway(hammer)) {
            throw new NoSuchElementException("the hammer is not lent");
        }
    }

    private void requireInRack(int hammer) {
        if (state.hammers.isAway(hammer)) {
            throw new NoSuchElementException("the hammer is lent");
        }
    }

    private int requiredPosition(int request) {
        int position = state.requests.positionOf(request);
        if (position == NONE) {
            throw new NoSuchElementException("no request with this id waits");
        }
        return position;
    }

    /** Also loads the hammers that lie in racks, so that a chord can be searched at once. */
    private void requireChord(int size) {
        if (size < 1 || size > MAX_CHORD) {
            throw new IllegalArgumentException("the size is not between 1 and 5");
        }
        chords.load(state.hammers);
        if (!chords.allow(size)) {
            throw new NoSuchElementException("fewer hammers lie in racks");
        }
    }

    /** The hammers, and the places of the racks in which they lie. */
    private static final class Hammers {
        private int count = 0;
        private final int[] pitches = new int[MAX_HAMMERS];
        private final int[] wears = new int[MAX_HAMMERS];
        // A slot is a place of a rack, numbered through all racks, or NONE for a hammer that is lent.
        private final int[] slots = new int[MAX_HAMMERS];
        private final int[] borrowers = new int[MAX_HAMMERS];
        private final int[] dueDays = new int[MAX_HAMMERS];
        private final int[] contents = new int[RACKS * PLACES];

        Hammers() {
            Arrays.fill(contents, NONE);
        }

        void copyFrom(Hammers other) {
            count = other.count;
            System.arraycopy(other.pitches, 0, pitches, 0, MAX_HAMMERS);
            System.arraycopy(other.wears, 0, wears, 0, MAX_HAMMERS);
            System.arraycopy(other.slots, 0, slots, 0, MAX_HAMMERS);
            System.arraycopy(other.borrowers, 0, borrowers, 0, MAX_HAMMERS);
            System.arraycopy(other.dueDays, 0, dueDays, 0, MAX_HAMMERS);
            System.arraycopy(other.contents, 0, contents, 0, RACKS * PLACES);
        }

        int size() {
            return count;
        }

        boolean isFull() {
            return count >= MAX_HAMMERS;
        }

        boolean has(int hammer) {
            return hammer >= 0 && hammer < count && hammer < MAX_HAMMERS;
        }

        int pitchOf(int hammer) {
            return has(hammer) ? pitches[hammer] : 0;
        }

        int wearOf(int hammer) {
            return has(hammer) ? wears[hammer] : 0;
        }

        void setWear(int hammer, int wear) {
            if (has(hammer)) {
                wears[hammer] = wear;
            }
        }

        int slotOf(int hammer) {
            return has(hammer) ? slots[hammer] : NONE;
        }

        boolean isAway(int hammer) {
            return has(hammer) && slots[hammer] == NONE;
        }

        int borrowerOf(int hammer) {
            return has(hammer) ? borrowers[hammer] : NONE;
        }

        int dueDayOf(int hammer) {
            return has(hammer) ? dueDays[hammer] : NONE;
        }

        int contentOf(int rack, int place) {
            return isRack(rack) && isPlace(place) ? contents[rack * PLACES + place] : NONE;
        }

        int countIn(int rack) {
            int lying = 0;
            for (int place = 0; place < PLACES; place++) {
                if (contentOf(rack, place) != NONE) {
                    lying++;
                }
            }
            return lying;
        }

        int wearSum() {
            int sum = 0;
            for (int hammer = 0; hammer < count; hammer++) {
                sum += wearOf(hammer);
            }
            return sum;
        }

        int awayCount() {
            int away = 0;
            for (int hammer = 0; hammer < count; hammer++) {
                if (isAway(hammer)) {
                    away++;
                }
            }
            return away;
        }

        /** The free place with the lowest number, or NONE. */
        int freePlaceOf(int rack) {
            for (int place = 0; isRack(rack) && place < PLACES; place++) {
                if (contentOf(rack, place) == NONE) {
                    return place;
                }
            }
            return NONE;
        }

        int add(int pitch) {
            if (isFull()) {
                return NONE;
            }
            int hammer = count;
            count++;
            pitches[hammer] = pitch;
            wears[hammer] = 0;
            slots[hammer] = NONE;
            return hammer;
        }

        void setContent(int rack, int place, int hammer) {
            if (!isRack(rack) || !isPlace(place)) {
                return;
            }
            int slot = rack * PLACES + place;
            contents[slot] = hammer;
            if (has(hammer)) {
                slots[hammer] = slot;
            }
        }

        void takeOut(int hammer) {
            int slot = has(hammer) ? slots[hammer] : NONE;
            if (slot >= 0 && slot < contents.length) {
                contents[slot] = NONE;
                slots[hammer] = NONE;
            }
        }

        void lend(int hammer, int borrower, int dueDay) {
            if (has(hammer)) {
                takeOut(hammer);
                borrowers[hammer] = borrower;
                dueDays[hammer] = dueDay;
            }
        }

        boolean sortsBefore(int hammer, int other) {
            if (!has(hammer) || !has(other)) {
                return false;
            }
            int difference = pitches[hammer] - pitches[other];
            return difference < 0 || difference == 0 && hammer < other;
        }

        private boolean moreWorn(int hammer, int other) {
            int difference = wearOf(hammer) - wearOf(other);
            return difference > 0 || difference == 0 && sortsBefore(hammer, other);
        }

        /** The hammer that has just rank hammers before it in the order by wear, or NONE. */
        int byWear(int rank) {
            for (int hammer = 0; hammer < count; hammer++) {
                int before = 0;
                for (int other = 0; other < count; other++) {
                    if (moreWorn(other, hammer)) {
                        before++;
                    }
                }
                if (before == rank) {
                    return hammer;
                }
            }
            return NONE;
        }

        boolean lieWhereTheyShould() {
            for (int slot = 0; slot < contents.length; slot++) {
                int hammer = contents[slot];
                if (hammer != NONE && slotOf(hammer) != slot) {
                    return false;
                }
            }
            return true;
        }
    }

    /** The requests that wait, in the order of their ids. */
    private static final class Requests {
        private int count = 0;
        private int nextId = 0;
        private final int[] ids = new int[MAX_REQUESTS];
        private final int[] borrowers = new int[MAX_REQUESTS];
        private final int[] pitches = new int[MAX_REQUESTS];
        private final int[] tolerances = new int[MAX_REQUESTS];
        private final int[] firstDays = new int[MAX_REQUESTS];
        private final int[] lastDays = new int[MAX_REQUESTS];

        void copyFrom(Requests other) {
            count = other.count;
            nextId = other.nextId;
            System.arraycopy(other.ids, 0, ids, 0, MAX_REQUESTS);
            System.arraycopy(other.borrowers, 0, borrowers, 0, MAX_REQUESTS);
            System.arraycopy(other.pitches, 0, pitches, 0, MAX_REQUESTS);
            System.arraycopy(other.tolerances, 0, tolerances, 0, MAX_REQUESTS);
            System.arraycopy(other.firstDays, 0, firstDays, 0, MAX_REQUESTS);
            System.arraycopy(other.lastDays, 0, lastDays, 0, MAX_REQUESTS);
        }

        int size() {
            return count;
        }

        boolean isFull() {
            return count >= MAX_REQUESTS;
        }

        boolean has(int position) {
            return position >= 0 && position < count && position < MAX_REQUESTS;
        }

        int positionOf(int id) {
            for (int position = 0; position < count; position++) {
                if (idAt(position) == id) {
                    return position;
                }
            }
            return NONE;
        }

        int idAt(int position) {
            return has(position) ? ids[position] : NONE;
        }

        int borrowerAt(int position) {
            return has(position) ? borrowers[position] : NONE;
        }

        int pitchAt(int position) {
            return has(position) ? pitches[position] : 0;
        }

        int toleranceAt(int position) {
            return has(position) ? tolerances[position] : NONE;
        }

        int firstDayAt(int position) {
            return has(position) ? firstDays[position] : 0;
        }

        int lastDayAt(int position) {
            return has(position) ? lastDays[position] : 0;
        }

        int add(int borrower, int pitch, int tolerance, int firstDay, int lastDay) {
            if (isFull()) {
                return NONE;
            }
            int id = nextId;
            nextId++;
            ids[count] = id;
            borrowers[count] = borrower;
            pitches[count] = pitch;
            tolerances[count] = tolerance;
            firstDays[count] = firstDay;
            lastDays[count] = lastDay;
            count++;
            return id;
        }

        void remove(int position) {
            if (!has(position)) {
                return;
            }
            count--;
            for (int i = position; i < count && i + 1 < MAX_REQUESTS; i++) {
                ids[i] = ids[i + 1];
                borrowers[i] = borrowers[i + 1];
                pitches[i] = pitches[i + 1];
                tolerances[i] = tolerances[i + 1];
                firstDays[i] = firstDays[i + 1];
                lastDays[i] = lastDays[i + 1];
            }
        }
    }

    /** The bookings that exist, in the order in which they were made. */
    private static final class Bookings {
        private int count = 0;
        private final int[] hammers = new int[MAX_BOOKINGS];
        private final int[] borrowers = new int[MAX_BOOKINGS];
        private final int[] firstDays = new int[MAX_BOOKINGS];
        private final int[] lastDays = new int[MAX_BOOKINGS];

        void copyFrom(Bookings other) {
            int copied = Math.min(other.count, MAX_BOOKINGS);
            if (copied >= 0) {
                count = copied;
                System.arraycopy(other.hammers, 0, hammers, 0, copied);
                System.arraycopy(other.borrowers, 0, borrowers, 0, copied);
                System.arraycopy(other.firstDays, 0, firstDays, 0, copied);
                System.arraycopy(other.lastDays, 0, lastDays, 0, copied);
            }
        }

        private boolean has(int booking) {
            return booking >= 0 && booking < count && booking < MAX_BOOKINGS;
        }

        int size() {
            return count;
        }

        int hammerOf(int booking) {
            return has(booking) ? hammers[booking] : NONE;
        }

        int borrowerOf(int booking) {
            return has(booking) ? borrowers[booking] : NONE;
        }

        int lastDayOf(int booking) {
            return has(booking) ? lastDays[booking] : 0;
        }

        void add(int hammer, int borrower, int firstDay, int lastDay) {
            if (count < 0 || count >= MAX_BOOKINGS) {
                return;
            }
            hammers[count] = hammer;
            borrowers[count] = borrower;
            firstDays[count] = firstDay;
            lastDays[count] = lastDay;
            count++;
        }

        void remove(int booking) {
            if (!has(booking)) {
                return;
            }
            count--;
            for (int i = booking; i < count && i + 1 < MAX_BOOKINGS; i++) {
                hammers[i] = hammers[i + 1];
                borrowers[i] = borrowers[i + 1];
                firstDays[i] = firstDays[i + 1];
                lastDays[i] = lastDays[i + 1];
            }
        }

        int countOf(int hammer) {
            int found = 0;
            for (int booking = 0; booking < count && has(booking); booking++) {
                if (hammers[booking] == hammer) {
                    found++;
                }
            }
            return found;
        }

        /** Whether a booking of the hammer has a day from firstDay to lastDay. */
        boolean meets(int hammer, int firstDay, int lastDay) {
            for (int booking = 0; booking < count && has(booking); booking++) {
                if (hammers[booking] == hammer && firstDays[booking] <= lastDay && lastDays[booking] >= firstDay) {
                    return true;
                }
            }
            return false;
        }

        /** The oldest booking that begins on the day, or NONE. */
        int beginningOn(int day) {
            for (int booking = 0; booking < count && has(booking); booking++) {
                if (firstDays[booking] == day) {
                    return booking;
                }
            }
            return NONE;
        }
    }

    /** All that undo and the snapshot cover, with the changes, each of which looks at its arguments first. */
    private static final class State {
        private final Hammers hammers = new Hammers();
        private final Requests requests = new Requests();
        private final Bookings bookings = new Bookings();
        private int day = 0;
        private int coins = FIRST_COINS;
        private int bookingCoins = 0;
        private int lateCoins = 0;
        private int faceCosts = 0;
        private int broken = 0;
        private int lent = 0;

        void copyFrom(State other) {
            hammers.copyFrom(other.hammers);
            requests.copyFrom(other.requests);
            bookings.copyFrom(other.bookings);
            day = other.day;
            coins = other.coins;
            bookingCoins = other.bookingCoins;
            lateCoins = other.lateCoins;
            faceCosts = other.faceCosts;
            broken = other.broken;
            lent = other.lent;
        }

        int enlist(int pitch, int rack) {
            if (pitch < 0 || pitch > MAX_PITCH) {
                return BAD_ARGUMENT;
            }
            if (!isRack(rack)) {
                return NO_SUCH_INDEX;
            }
            int place = hammers.freePlaceOf(rack);
            if (hammers.isFull() || place == NONE) {
                return WRONG_STATE;
            }
            int hammer = hammers.add(pitch);
            hammers.setContent(rack, place, hammer);
            return hammer;
        }

        int carry(int hammer, int rack) {
            if (!hammers.has(hammer) || !isRack(rack)) {
                return NO_SUCH_INDEX;
            }
            int place = hammers.freePlaceOf(rack);
            if (hammers.isAway(hammer) || hammers.slotOf(hammer) / PLACES == rack || place == NONE) {
                return WRONG_STATE;
            }
            hammers.takeOut(hammer);
            hammers.setContent(rack, place, hammer);
            return place;
        }

        int exchange(int rack, int first, int second) {
            if (!isRack(rack) || !isPlace(first) || !isPlace(second)) {
                return NO_SUCH_INDEX;
            }
            if (first == second) {
                return BAD_ARGUMENT;
            }
            int moved = hammers.contentOf(rack, first);
            hammers.setContent(rack, first, hammers.contentOf(rack, second));
            hammers.setContent(rack, second, moved);
            return Sorting.leastSwaps(Sorting.codeOf(hammers, rack));
        }

        int ask(int borrower, int pitch, int tolerance, int firstDay, int lastDay) {
            if (borrower < 0 || borrower > MAX_BORROWER || pitch < 0 || pitch > MAX_PITCH) {
                return BAD_ARGUMENT;
            }
            if (tolerance < 0 || tolerance > MAX_TOLERANCE) {
                return BAD_ARGUMENT;
            }
            if (firstDay <= day || lastDay < firstDay || lastDay > day + DAYS_AHEAD) {
                return BAD_ARGUMENT;
            }
            if (requests.isFull()) {
                return WRONG_STATE;
            }
            return requests.add(borrower, pitch, tolerance, firstDay, lastDay);
        }

        int drop(int request) {
            int position = requests.positionOf(request);
            if (position == NONE) {
                return NO_SUCH_ELEMENT;
            }
            requests.remove(position);
            return requests.size();
        }

        int grantBest(int request) {
            int position = requests.positionOf(request);
            if (position == NONE) {
                return NO_SUCH_ELEMENT;
            }
            if (requests.firstDayAt(position) <= day) {
                return WRONG_STATE;
            }
            int hammer = bestFor(position);
            if (hammer == NONE) {
                return NOT_POSSIBLE;
            }
            book(position, hammer);
            return hammer;
        }

        int grantTogether(Matching matching) {
            dropRequestsThatHaveCome();
            matching.load(this);
            int granted = matching.choose();
            int position = 0;
            for (int visited = 0; visited < MAX_REQUESTS; visited++) {
                int hammer = matching.chosenFor(visited);
                if (hammer == NONE) {
                    position++;
                } else {
                    // A granted request does not wait any more: the next one moves up to its position.
                    book(position, hammer);
                }
            }
            return granted;
        }

        private void dropRequestsThatHaveCome() {
            for (int position = requests.size() - 1; position >= 0; position--) {
                if (requests.firstDayAt(position) <= day) {
                    requests.remove(position);
                }
            }
        }

        private void book(int position, int hammer) {
            int firstDay = requests.firstDayAt(position);
            int lastDay = requests.lastDayAt(position);
            bookings.add(hammer, requests.borrowerAt(position), firstDay, lastDay);
            requests.remove(position);
            int earned = lastDay - firstDay + 1;
            coins += earned;
            bookingCoins += earned;
        }

        boolean suits(int position, int hammer) {
            if (!requests.has(position) || !hammers.has(hammer)) {
                return false;
            }
            int firstDay = requests.firstDayAt(position);
            return Math.abs(hammers.pitchOf(hammer) - requests.pitchAt(position)) <= requests.toleranceAt(position)
                    && hammers.wearOf(hammer) < WORN_OUT
                    && (!hammers.isAway(hammer) || hammers.dueDayOf(hammer) < firstDay)
                    && !bookings.meets(hammer, firstDay, requests.lastDayAt(position));
        }

        int bestFor(int position) {
            int best = NONE;
            int least = 0;
            for (int hammer = 0; hammer < hammers.size(); hammer++) {
                int remoteness = remoteness(position, hammer);
                if (suits(position, hammer) && (best == NONE || remoteness < least)) {
                    best = hammer;
                    least = remoteness;
                }
            }
            return best;
        }

        /** Orders hammers by the difference of the pitches, then by wear. */
        private int remoteness(int position, int hammer) {
            int difference = Math.abs(hammers.pitchOf(hammer) - requests.pitchAt(position));
            return difference * (WORN_OUT + 1) + hammers.wearOf(hammer);
        }

        int takeBack(int hammer, int strikes, int rack) {
            if (!hammers.has(hammer) || !isRack(rack)) {
                return NO_SUCH_INDEX;
            }
            if (strikes < 0 || strikes > MAX_STRIKES) {
                return BAD_ARGUMENT;
            }
            int place = hammers.freePlaceOf(rack);
            if (!hammers.isAway(hammer) || place == NONE) {
                return WRONG_STATE;
            }
            int wear = Math.min(WORN_OUT, hammers.wearOf(hammer) + strikes / 10);
            int earned = 2 * Math.max(0, day - hammers.dueDayOf(hammer));
            hammers.setWear(hammer, wear);
            hammers.setContent(rack, place, hammer);
            coins += earned;
            lateCoins += earned;
            return wear;
        }

        int renew(int hammer) {
            if (!hammers.has(hammer)) {
                return NO_SUCH_INDEX;
            }
            if (hammers.isAway(hammer)) {
                return WRONG_STATE;
            }
            int cost = (hammers.wearOf(hammer) + 4) / 5;
            if (coins < cost) {
                return NOT_POSSIBLE;
            }
            hammers.setWear(hammer, 0);
            coins -= cost;
            faceCosts += cost;
            return cost;
        }

        int advance(int days) {
            if (days < 1 || days > MAX_DAYS) {
                return BAD_ARGUMENT;
            }
            int lentBefore = lent;
            for (int passed = 0; passed < days; passed++) {
                day++;
                openBookings();
            }
            return lent - lentBefore;
        }

        private void openBookings() {
            for (int left = bookings.size(); left > 0; left--) {
                int booking = bookings.beginningOn(day);
                if (booking == NONE) {
                    return;
                }
                int hammer = bookings.hammerOf(booking);
                if (hammers.isAway(hammer)) {
                    broken++;
                } else {
                    hammers.lend(hammer, bookings.borrowerOf(booking), bookings.lastDayOf(booking));
                    lent++;
                }
                bookings.remove(booking);
            }
        }
    }

    /** The states before the latest changes, and a spare one that holds the state before a change that may fail. */
    private static final class History {
        private static final int SLOTS = MAX_UNDO + 1;

        private final State[] slots = new State[SLOTS];
        private int spare = 0;
        private int count = 0;

        History() {
            for (int slot = 0; slot < SLOTS; slot++) {
                slots[slot] = new State();
            }
        }

        int size() {
            return count;
        }

        private State spareState() {
            return spare >= 0 && spare < SLOTS ? slots[spare] : null;
        }

        void mark(State now) {
            State marked = spareState();
            if (marked != null) {
                marked.copyFrom(now);
            }
        }

        void revert(State now) {
            State marked = spareState();
            if (marked != null) {
                now.copyFrom(marked);
            }
        }

        /** Makes the marked state one that can be gone back to; the oldest one becomes the spare. */
        void keep() {
            spare = (spare + 1) % SLOTS;
            count = Math.min(count + 1, MAX_UNDO);
        }

        void back(State now) {
            if (count > 0) {
                count--;
                spare = (spare + SLOTS - 1) % SLOTS;
                revert(now);
            }
        }

        void forget() {
            count = 0;
        }
    }

    /** Gives hammers to waiting requests; a set of hammers is a mask with one bit for each. */
    private static final class Matching {
        private static final int ALL_HAMMERS = (1 << MAX_HAMMERS) - 1;

        private int count = 0;
        private final int[] fitting = new int[MAX_REQUESTS];
        private final int[] holders = new int[MAX_HAMMERS];
        private final int[] chosen = new int[MAX_REQUESTS];
        private int untried = 0;

        void load(State state) {
            count = Math.min(state.requests.size(), MAX_REQUESTS);
            for (int request = 0; request < count; request++) {
                int mask = 0;
                for (int hammer = 0; hammer < state.hammers.size(); hammer++) {
                    if (state.suits(request, hammer)) {
                        mask |= 1 << hammer;
                    }
                }
                fitting[request] = mask;
            }
        }

        int greatest() {
            return greatestFrom(0, ALL_HAMMERS);
        }

        /** The most requests from position first on that can be granted together with the hammers that are left. */
        private int greatestFrom(int first, int left) {
            Arrays.fill(holders, NONE);
            int granted = 0;
            for (int request = first; request < count; request++) {
                untried = left;
                if (augment(this, request, 0)) {
                    granted++;
                }
            }
            return granted;
        }

        /** Each level takes a hammer that was untried, and only a request with a hammer has a level below it. */
        private static boolean augment(Matching matching, int request, int depth) {
            if (depth > MAX_REQUESTS || request < 0 || request >= MAX_REQUESTS) {
                return false;
            }
            for (int hammer = 0; hammer < MAX_HAMMERS; hammer++) {
                int bit = 1 << hammer;
                if ((matching.fitting[request] & matching.untried & bit) != 0) {
                    matching.untried &= ~bit;
                    int holder = matching.holders[hammer];
                    if (holder == NONE || augment(matching, holder, depth + 1)) {
                        matching.holders[hammer] = request;
                        return true;
                    }
                }
            }
            return false;
        }

        int greatestBySets() {
            int smallest = count;
            for (int set = 0; set < 1 << count; set++) {
                int outside = count - Integer.bitCount(set);
                smallest = Math.min(smallest, outside + Integer.bitCount(fittingAny(set)));
            }
            return smallest;
        }

        private int fittingAny(int set) {
            int mask = 0;
            for (int request = 0; request < count; request++) {
                if ((set & 1 << request) != 0) {
                    mask |= fitting[request];
                }
            }
            return mask;
        }

        /** Chooses the hammers for the most grants and returns their number. */
        int choose() {
            int most = greatest();
            int left = ALL_HAMMERS;
            int granted = 0;
            Arrays.fill(chosen, NONE);
            for (int request = 0; request < count; request++) {
                int hammer = firstThatKeeps(most - granted, request, left);
                if (hammer != NONE) {
                    chosen[request] = hammer;
                    left &= ~(1 << hammer);
                    granted++;
                }
            }
            return granted;
        }

        private int firstThatKeeps(int needed, int request, int left) {
            for (int hammer = 0; hammer < MAX_HAMMERS; hammer++) {
                int bit = 1 << hammer;
                if ((fitting[request] & left & bit) != 0 && 1 + greatestFrom(request + 1, left & ~bit) >= needed) {
                    return hammer;
                }
            }
            return NONE;
        }

        int chosenFor(int request) {
            return request >= 0 && request < count ? chosen[request] : NONE;
        }
    }

    /** The overtones of hammers, and the search for the most consonant chord of those that lie in racks. */
    private static final class Chords {
        private static final int[] OVERTONES = {0, 12, 19, 24};
        private static final int GREATEST_CONSONANCE = 15;

        private int count = 0;
        private int size = 0;
        private final int[] pitches = new int[MAX_HAMMERS];
        private final int[] consonances = new int[MAX_HAMMERS * MAX_HAMMERS];

        private static int loudnessAbove(int distance) {
            switch (distance) {
                case 0:
                    return 8;
                case 12:
                    return 4;
                case 19:
                    return 2;
                case 24:
                    return 1;
                default:
                    return 0;
            }
        }

        static int loudnessOf(Hammers hammers, int rack, int pitch) {
            // Far outside the pitches that sound, the distance could wrap around.
            if (pitch < 0 || pitch > MAX_PITCH + HIGHEST_OVERTONE) {
                return 0;
            }
            int sum = 0;
            for (int place = 0; place < PLACES; place++) {
                int hammer = hammers.contentOf(rack, place);
                if (hammer != NONE) {
                    sum += loudnessAbove(pitch - hammers.pitchOf(hammer));
                }
            }
            return sum;
        }

        static int loudestOf(Hammers hammers, int rack) {
            int loudest = 0;
            int most = 0;
            for (int pitch = 0; pitch <= MAX_PITCH + HIGHEST_OVERTONE; pitch++) {
                int here = loudnessOf(hammers, rack, pitch);
                if (here > most) {
                    most = here;
                    loudest = pitch;
                }
            }
            return loudest;
        }

        /** The consonance of two pitches. */
        static int between(int pitch, int other) {
            int sum = 0;
            for (int overtone : OVERTONES) {
                sum += Math.min(loudnessAbove(overtone), loudnessAbove(pitch + overtone - other));
            }
            return sum;
        }

        void load(Hammers hammers) {
            count = 0;
            for (int hammer = 0; hammer < hammers.size() && count < MAX_HAMMERS; hammer++) {
                if (!hammers.isAway(hammer)) {
                    pitches[count] = hammers.pitchOf(hammer);
                    count++;
                }
            }
            for (int one = 0; one < count; one++) {
                for (int other = 0; other < count; other++) {
                    consonances[one * MAX_HAMMERS + other] = between(pitches[one], pitches[other]);
                }
            }
        }

        boolean allow(int wanted) {
            return wanted <= count;
        }

        int best(int wanted) {
            size = wanted;
            return extend(this, 0, 0, 0, NONE);
        }

        /** The greater one of best and the consonances of the chords that add hammers from next on to a chosen set. */
        private static int extend(Chords chords, int next, int chosen, int sum, int best) {
            int missing = chords.size - Integer.bitCount(chosen);
            if (missing <= 0) {
                return Math.max(best, sum);
            }
            int greatest = best;
            for (int added = Math.max(next, 0); added + missing <= chords.count; added++) {
                int sounding = sum + chords.withChosen(added, chosen);
                if (sounding + chords.greatestStillToCome(missing - 1) > greatest) {
                    greatest = extend(chords, added + 1, chosen | 1 << added, sounding, greatest);
                }
            }
            return greatest;
        }

        private int withChosen(int added, int chosen) {
            int sum = 0;
            for (int other = 0; other < count; other++) {
                if ((chosen & 1 << other) != 0) {
                    sum += pair(added, other);
                }
            }
            return sum;
        }

        private int pair(int one, int other) {
            boolean known = one >= 0 && one < MAX_HAMMERS && other >= 0 && other < MAX_HAMMERS;
            return known ? consonances[one * MAX_HAMMERS + other] : 0;
        }

        /** A bound for the pairs that are not complete while so many hammers are missing. */
        private int greatestStillToCome(int missing) {
            int there = size - missing;
            return (size * (size - 1) - there * (there - 1)) / 2 * GREATEST_CONSONANCE;
        }

        int bestBySets(int wanted) {
            int best = NONE;
            for (int set = 0; set < 1 << count; set++) {
                if (Integer.bitCount(set) == wanted) {
                    best = Math.max(best, consonanceOf(set));
                }
            }
            return best;
        }

        private int consonanceOf(int set) {
            int sum = 0;
            for (int one = 0; one < count; one++) {
                if ((set & 1 << one) != 0) {
                    // The hammers below this one alone, so that each pair counts once.
                    sum += withChosen(one, set & (1 << one) - 1);
                }
            }
            return sum;
        }
    }

    /**
     * Sorts racks by swaps. An arrangement is a code with three bits for each place: 0 if it is free, else the number
     * of the hammer in the sorted order, counted from 1, so that a hammer belongs in the place one below its number.
     */
    private static final class Sorting {
        private static final int BITS = 3;
        private static final int CONTENT = 7;

        static int codeOf(Hammers hammers, int rack) {
            int code = 0;
            for (int place = 0; place < PLACES; place++) {
                int hammer = hammers.contentOf(rack, place);
                if (hammer != NONE) {
                    code |= numberOf(hammers, rack, hammer) << BITS * place;
                }
            }
            return code;
        }

        private static int numberOf(Hammers hammers, int rack, int hammer) {
            int number = 1;
            for (int place = 0; place < PLACES; place++) {
                int other = hammers.contentOf(rack, place);
                if (other != NONE && hammers.sortsBefore(other, hammer)) {
                    number++;
                }
            }
            return number;
        }

        private static int contentAt(int code, int place) {
            return code >> BITS * place & CONTENT;
        }

        private static boolean isMisplaced(int content, int place) {
            return content != 0 && content - 1 != place;
        }

        private static int misplaced(int code) {
            int count = 0;
            for (int place = 0; place < PLACES; place++) {
                if (isMisplaced(contentAt(code, place), place)) {
                    count++;
                }
            }
            return count;
        }

        static int leastSwaps(int code) {
            // Five swaps bring the right content into all places but the last one, and so into this one too.
            for (int swaps = 0; swaps < PLACES; swaps++) {
                if (canSort(code, swaps)) {
                    return swaps;
                }
            }
            return PLACES;
        }

        private static boolean canSort(int code, int swaps) {
            int wrong = misplaced(code);
            if (wrong == 0) {
                return true;
            }
            // A swap brings at most two hammers into their places.
            if (swaps <= 0 || wrong > 2 * swaps) {
                return false;
            }
            // Some swap moves this hammer, and the same number of swaps sorts the rack if that one comes first.
            int first = firstMisplaced(code);
            for (int second = 0; second < PLACES; second++) {
                int next = swapped(code, first, second);
                if (next != code && canSort(next, swaps - 1)) {
                    return true;
                }
            }
            return false;
        }

        private static int firstMisplaced(int code) {
            for (int place = 0; place < PLACES; place++) {
                if (isMisplaced(contentAt(code, place), place)) {
                    return place;
                }
            }
            return 0;
        }

        private static int swapped(int code, int first, int second) {
            int difference = contentAt(code, first) ^ contentAt(code, second);
            return code ^ difference << BITS * first ^ difference << BITS * second;
        }

        static int swapsByCycles(int code) {
            int closed = 0;
            int visited = 0;
            for (int start = 0; start < PLACES; start++) {
                if (isMisplaced(contentAt(code, start), start) && (visited & 1 << start) == 0) {
                    int cycle = closedCycleFrom(code, start);
                    if (cycle != 0) {
                        closed++;
                    }
                    visited |= cycle;
                }
            }
            return misplaced(code) - closed;
        }

        /** The mask of the places in the closed cycle that begins at a place, or 0 if it passes a free place. */
        private static int closedCycleFrom(int code, int start) {
            int cycle = 0;
            int place = start;
            for (int step = 0; step < PLACES; step++) {
                cycle |= 1 << place;
                int content = contentAt(code, place);
                if (content == 0) {
                    return 0;
                }
                place = content - 1;
                if (place == start) {
                    return cycle;
                }
            }
            return 0;
        }
    }

    /** The script buffer, and the commands of the script that was read from it last. */
    private static final class Script {
        static final int HAMMER = 0;
        static final int MOVE = 1;
        static final int SWAP = 2;
        static final int ASK = 3;
        static final int DROP = 4;
        static final int GRANT = 5;
        static final int MOST = 6;
        static final int BACK = 7;
        static final int FACE = 8;
        static final int DAY = 9;

        private static final int KINDS = 10;
        private static final int MAX_LENGTH = 60;
        // The shortest command and the semicolon behind it take four characters.
        private static final int MAX_COMMANDS = MAX_LENGTH / 4;
        private static final int MAX_ARGUMENTS = 5;
        private static final int MAX_DIGITS = 3;

        private final char[] text = new char[MAX_LENGTH];
        private int length = 0;
        private int at = 0;
        private int count = 0;
        private final int[] kinds = new int[MAX_COMMANDS];
        private final int[] arguments = new int[MAX_COMMANDS * MAX_ARGUMENTS];
        private int argumentCount = 0;

        boolean isFull() {
            return length >= MAX_LENGTH;
        }

        int append(char character) {
            if (!isFull()) {
                text[length] = character;
                length++;
            }
            return length;
        }

        void clear() {
            length = 0;
        }

        int size() {
            return count;
        }

        int kindOf(int command) {
            return command >= 0 && command < count && command < MAX_COMMANDS ? kinds[command] : NONE;
        }

        int argument(int command, int index) {
            boolean known = command >= 0 && command < count && command < MAX_COMMANDS && index >= 0 && index < MAX_ARGUMENTS;
            return known ? arguments[command * MAX_ARGUMENTS + index] : 0;
        }

        /** The form of a command: N stands for a number, D for a digit, any other character for itself. */
        private static String formOf(int kind) {
            switch (kind) {
                case HAMMER:
                    return "hammer N D";
                case MOVE:
                    return "move N D";
                case SWAP:
                    return "swap DDD";
                case ASK:
                    return "ask D N~N N-N";
                case DROP:
                    return "drop N";
                case GRANT:
                    return "grant N";
                case MOST:
                    return "most";
                case BACK:
                    return "back N N D";
                case FACE:
                    return "face N";
                default:
                    return "day";
            }
        }

        /** Reads the commands and returns NONE, or the error position. */
        int read() {
            at = 0;
            count = 0;
            for (int left = MAX_COMMANDS; left > 0; left--) {
                if (!readCommand()) {
                    return at;
                }
                count++;
                if (at == length) {
                    return NONE;
                }
                if (!readCharacter(';')) {
                    return at;
                }
            }
            return at;
        }

        /** Tries all kinds, since some begin alike; if none can be read, at is where the last of them fails. */
        private boolean readCommand() {
            int start = at;
            int furthest = at;
            for (int kind = 0; kind < KINDS; kind++) {
                at = start;
                if (count >= 0 && count < MAX_COMMANDS && readForm(kind)) {
                    kinds[count] = kind;
                    return true;
                }
                furthest = Math.max(furthest, at);
            }
            at = furthest;
            return false;
        }

        private boolean readForm(int kind) {
            argumentCount = 0;
            String form = formOf(kind);
            for (int i = 0; i < form.length(); i++) {
                if (!readPart(form.charAt(i))) {
                    return false;
                }
            }
            return kind != DAY || readOptionalDays();
        }

        private boolean readOptionalDays() {
            if (readCharacter(' ')) {
                return readNumber(MAX_DIGITS);
            }
            store(1);
            return true;
        }

        private boolean readPart(char part) {
            if (part == 'N') {
                return readNumber(MAX_DIGITS);
            }
            if (part == 'D') {
                return readNumber(1);
            }
            return readCharacter(part);
        }

        private boolean readCharacter(char character) {
            if (at < 0 || at >= length || at >= MAX_LENGTH || text[at] != character) {
                return false;
            }
            at++;
            return true;
        }

        private boolean readNumber(int maxDigits) {
            int value = 0;
            int digits = 0;
            while (digits < maxDigits && isDigitHere()) {
                value = 10 * value + (text[at] - '0');
                at++;
                digits++;
            }
            if (digits == 0) {
                return false;
            }
            store(value);
            return true;
        }

        private boolean isDigitHere() {
            return at >= 0 && at < length && at < MAX_LENGTH && text[at] >= '0' && text[at] <= '9';
        }

        private void store(int value) {
            if (count < MAX_COMMANDS && argumentCount < MAX_ARGUMENTS) {
                arguments[count * MAX_ARGUMENTS + argumentCount] = value;
                argumentCount++;
            }
        }
    }
}
