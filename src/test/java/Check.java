import java.util.Objects;

/** Counts the answers that are not due. */
final class Check {
    interface Call {
        Object answer();
    }

    private static int wrong = 0;
    private static int done = 0;
    private static String topic = "";

    private Check() {
    }

    /** What the labels of the checks that follow begin with. */
    static void about(String newTopic) {
        topic = newTopic;
    }

    static void due(String what, Object got, Object want) {
        done++;
        if (!Objects.equals(got, want)) {
            wrong++;
            System.out.println(topic + what + " answered " + got + ", due is " + want);
        }
    }

    /** The answer of a call, or the class of what it throws. */
    static Object outcome(Call call) {
        try {
            return call.answer();
        } catch (RuntimeException e) {
            return e.getClass();
        }
    }

    static void refused(String what, Class<? extends RuntimeException> want, Call call) {
        due(what, outcome(call), want);
    }

    static String output(HammerDepot depot, int length) {
        StringBuilder text = new StringBuilder();
        for (int i = 0; i < length; i++) {
            text.append(depot.outputAt(i));
        }
        return text.toString();
    }

    static void type(HammerDepot depot, String script) {
        for (int i = 0; i < script.length(); i++) {
            depot.type(script.charAt(i));
        }
    }

    static Object run(HammerDepot depot, String script) {
        type(depot, script);
        return outcome(depot::runScript);
    }

    /** All that undo and the snapshot cover, as far as it can be read; the output text is another one afterwards. */
    static String face(HammerDepot d) {
        StringBuilder text = new StringBuilder();
        int today = d.day();
        text.append(today).append(' ').append(d.coins()).append(' ').append(d.coinsByAccounts()).append(' ');
        text.append(d.brokenTotal()).append(' ').append(d.lentTotal()).append('\n');
        for (int rack = 0; rack < 3; rack++) {
            text.append(output(d, d.renderRack(rack))).append('\n');
        }
        int hammers = d.hammerCount();
        for (int hammer = 0; hammer < hammers; hammer++) {
            int bookings = d.bookings(hammer);
            text.append(output(d, d.renderHammer(hammer))).append(" b").append(bookings).append(':');
            for (int day = today; bookings > 0 && day <= today + 9; day++) {
                text.append(d.isBooked(hammer, day) ? '1' : '0');
            }
            text.append('\n');
        }
        int requests = d.requestCount();
        for (int position = 0; position < requests; position++) {
            int id = d.requestAt(position);
            text.append(id).append(" fits");
            for (int hammer = 0; hammer < hammers; hammer++) {
                text.append(d.fits(id, hammer) ? '1' : '0');
            }
            text.append('\n');
        }
        return text.toString();
    }

    static void end() {
        System.out.println(done + " checks, " + wrong + " wrong");
        if (wrong != 0) {
            System.exit(1);
        }
    }
}
