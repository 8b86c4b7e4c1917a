import java.util.NoSuchElementException;

/** Promises 48 to 51: the script buffer, the form of scripts and their commands. */
public final class ScriptTest {
    private static final Class<IllegalArgumentException> ARGUMENT = IllegalArgumentException.class;
    private static final Class<IllegalStateException> STATE = IllegalStateException.class;
    private static final Class<NoSuchElementException> ELEMENT = NoSuchElementException.class;

    private static void type() {
        HammerDepot d = new HammerDepot();
        Check.refused("48 31", ARGUMENT, () -> d.type((char) 31));
        Check.refused("48 127", ARGUMENT, () -> d.type((char) 127));
        Check.refused("48 0", ARGUMENT, () -> d.type((char) 0));
        Check.refused("48 65535", ARGUMENT, () -> d.type((char) 65535));
        for (int i = 1; i <= 60; i++) {
            Check.due("48 length", d.type(i % 2 == 0 ? (char) 32 : (char) 126), i);
        }
        Check.refused("48 full", STATE, () -> d.type('a'));
        Check.refused("48 full, wrong character", ARGUMENT, () -> d.type((char) 127));
        Check.refused("49 the buffer of 60", ARGUMENT, d::runScript);
        Check.due("48 empty again", d.type('a'), 1);
    }

    private static void error(String script, int want) {
        HammerDepot d = new HammerDepot();
        Check.due("49 " + script, Check.run(d, script), ARGUMENT);
        Check.due("50 " + script, Check.outcome(d::errorPosition), want);
    }

    private static void errors() {
        Check.refused("50 no script", ELEMENT, () -> new HammerDepot().errorPosition());
        error("", 0);
        error("x", 0);
        error(" day", 0);
        error("D", 0);
        error("mo", 2);
        error("mox", 2);
        error("moste", 4);
        error("most ", 4);
        error("move", 4);
        error("mover", 4);
        error("day ", 4);
        error("day x", 4);
        error("day 1234", 7);
        error("day 12 ", 6);
        error("day;", 4);
        error("day;;", 4);
        error("day; day", 4);
        error("dr", 2);
        error("dx", 1);
        error("hammer 1234 1", 10);
        error("hammer 1  1", 9);
        error("hammer 1 12", 10);
        error("swap 012 ", 8);
        error("swap 0 1", 6);
        error("swap 01", 7);
        error("ask 12 3~4 5-6", 5);
        error("ask 1 3-4 5-6", 7);
        error("ask 1 3~4 5~6", 11);
        error("ask 1 3~4 5-", 12);
        error("ask 1 3~4 5-6x", 13);
        error("ask 1 3~4444 5-6", 11);
        error("back 1 2", 8);
        error("back 1 2 3 4", 10);
        error("drop", 4);
        error("grant a", 6);
        error("face  1", 5);
        error("day;day;day;day;day;day;day;day;day;day;day;day;day;day;day;", 60);
        error("day;day;day;day;day;day;day;day;day;day;day;day;day;day;dayx", 59);
        error("most;most;most;most;most;most;most;most;most;most;most;most;", 60);
    }

    /** Compares the error positions of many texts that are nearly scripts with those of a regular expression. */
    private static void manyErrors() {
        String[] commands = {
            "hammer 24 0", "move 1 2", "swap 012", "ask 3 24~0 1-5", "drop 7", "grant 12", "most", "back 0 100 2", "face 3", "day", "day 30"
        };
        String others = "hmsadgbf019 ;~-z";
        long seed = 5;
        for (int round = 0; round < 4000; round++) {
            StringBuilder text = new StringBuilder();
            for (int i = 0; i <= round % 3; i++) {
                seed = seed * 25214903917L + 11 & (1L << 48) - 1;
                text.append(i == 0 ? "" : ";").append(commands[(int) (seed >> 20) % commands.length]);
            }
            for (int i = 0; i < 1 + round % 2; i++) {
                seed = seed * 25214903917L + 11 & (1L << 48) - 1;
                int at = (int) (seed >> 20) % text.length();
                seed = seed * 25214903917L + 11 & (1L << 48) - 1;
                text.setCharAt(at, others.charAt((int) (seed >> 20) % others.length()));
            }
            String script = text.toString();
            int want = Model.errorIn(script);
            HammerDepot d = new HammerDepot();
            boolean formed = Check.run(d, script) != ARGUMENT;
            Check.due("49 form of " + script, formed, want < 0);
            Check.due("50 " + script, Check.outcome(d::errorPosition), want < 0 ? ELEMENT : (Object) want);
        }
    }

    private static void commands() {
        HammerDepot d = new HammerDepot();
        Check.due("49 hammer", Check.run(d, "hammer 24 0;hammer 036 1;hammer 7 2"), 3);
        Check.due("49 hammer", d.pitch(1), 36);
        Check.due("49 move", Check.run(d, "move 0 1"), 1);
        Check.due("49 move", d.placeOf(0), 1);
        Check.due("49 swap", Check.run(d, "swap 105"), 1);
        Check.due("49 swap", d.placeOf(1), 5);
        Check.due("49 ask", Check.run(d, "ask 3 24~2 1-5;ask 4 7~0 2-2;ask 5 36~0 1-3"), 3);
        Check.due("49 drop", Check.run(d, "drop 1"), 1);
        Check.due("49 drop", d.requestAt(1), 2);
        Check.due("49 grant", Check.run(d, "grant 0"), 1);
        Check.due("49 grant", d.bookings(0), 1);
        Check.due("49 most", Check.run(d, "most"), 1);
        Check.due("49 most", d.bookings(1), 1);
        Check.due("49 day", Check.run(d, "day"), 1);
        Check.due("49 day", d.day(), 1);
        Check.due("49 lent", d.borrower(0), 3);
        Check.due("49 lent until", d.dueDay(0), 5);
        Check.due("49 back", Check.run(d, "back 0 120 2;day 29"), 2);
        Check.due("49 back", d.wear(0), 12);
        Check.due("49 back", d.rackOf(0), 2);
        Check.due("49 day", d.day(), 30);
        Check.due("49 face", Check.run(d, "face 0"), 1);
        Check.due("49 face", d.wear(0), 0);
        Check.due("37 coins", d.coins(), 25);
        Check.refused("51 none failed", ELEMENT, d::failedCommand);
        Check.refused("50 all had the form", ELEMENT, d::errorPosition);
        Check.due("49 fifteen", Check.run(d, "day;day;day;day;day;day;day;day;day;day;day;day;day;day;day"), 15);
        Check.due("41 day", d.day(), 45);
    }

    private static void failures() {
        HammerDepot d = new HammerDepot();
        d.addHammer(1, 0);
        d.type('d');
        Check.due("49 all or none", Check.run(d, "ay;hammer 61 0"), STATE);
        Check.due("51 failedCommand", d.failedCommand(), 1);
        Check.due("49 no command takes effect", d.day(), 0);
        Check.due("48 empty again", d.type('d'), 1);
        Check.due("49 form", Check.run(d, "ax"), ARGUMENT);
        Check.due("50 errorPosition", d.errorPosition(), 2);
        Check.due("51 stays", d.failedCommand(), 1);
        Check.due("48 empty again", d.type('d'), 1);
        Check.due("49 good", Check.run(d, "ay"), 1);
        Check.due("50 stays", d.errorPosition(), 2);
        Check.due("51 stays", d.failedCommand(), 1);
        String[] each = {
            "hammer 1 3", "hammer 1 9", "move 0 0", "move 1 1", "swap 011", "swap 006", "swap 301", "ask 0 1~0 1-1", "ask 0 1~13 2-2",
            "drop 0", "grant 0", "back 0 0 0", "back 0 0 3", "face 1", "day 0", "day 31", "day 999"
        };
        for (String command : each) {
            Check.due("49 " + command, Check.run(d, "most;day;" + command + ";day"), STATE);
            Check.due("51 " + command, d.failedCommand(), 2);
            Check.due("49 nothing happened", d.day(), 1);
        }
        Check.due("49 unsupported", Check.run(d, "ask 0 30~0 2-2;grant 0"), STATE);
        Check.due("51 unsupported", d.failedCommand(), 1);
        Check.due("49 the id was given back", d.request(0, 30, 0, 2, 2), 0);
    }

    private static void oneChange() {
        HammerDepot d = new HammerDepot();
        d.addHammer(5, 0);
        Check.run(d, "hammer 24 0;hammer 36 1;day 3");
        Check.run(d, "hammer 24 0;day 0");
        Check.run(d, "hammer 24");
        Check.due("52 one for a script", d.undo(), 1);
        Check.due("12 hammerCount", d.hammerCount(), 1);
        Check.due("41 day", d.day(), 0);
        Check.due("52 the hammer", d.undo(), 0);
    }

    public static void main(String[] args) {
        type();
        errors();
        manyErrors();
        commands();
        failures();
        oneChange();
        Check.end();
    }
}
