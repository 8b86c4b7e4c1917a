import java.util.NoSuchElementException;

/** Tests for the sentences about scripts and of the promises 48 to 51. */
final class ScriptSentences {
    private static final Class<IllegalArgumentException> ARGUMENT = IllegalArgumentException.class;
    private static final Class<IllegalStateException> STATE = IllegalStateException.class;
    private static final Class<NoSuchElementException> ELEMENT = NoSuchElementException.class;
    private static final String SIXTY = "day;".repeat(14) + "most";

    private ScriptSentences() {
    }

    static void all(Sentences s) {
        buffer(s);
        form(s);
        errors(s);
        hammerCommands(s);
        requestCommands(s);
        otherCommands(s);
        inOrder(s);
        type(s);
        runScript(s);
        failures(s);
        positions(s);
    }

    private static void buffer(Sentences s) {
        s.in("Scripts").says("A script is typed into a buffer of at most 60 characters and then run")
            .test("a script of 60 characters, as 15 commands", d -> {
                Check.type(d, SIXTY.substring(0, 59));
                Check.due("the last character", d.type('t'), 60);
                Check.refused("one more", STATE, () -> d.type('t'));
                Check.due("runScript", d.runScript(), 15);
                Check.due("day", d.day(), 14);
            })
            .test("no character", d -> Check.refused("runScript", ARGUMENT, d::runScript));
    }

    /** Whether a text has the form, and the state of a new depot lets its commands succeed or fail. */
    private static void formed(String script) {
        Check.due("form of '" + script + "'", Check.run(new HammerDepot(), script) != ARGUMENT, true);
    }

    private static void error(String script, int want) {
        HammerDepot d = new HammerDepot();
        Check.due("'" + script + "'", Check.run(d, script), ARGUMENT);
        Check.due("error position of '" + script + "'", Check.outcome(d::errorPosition), want);
    }

    /** Every proper beginning has no form; each of its characters can continue a script. */
    private static void beginnings(String script, int shortest) {
        for (int end = 0; end < shortest; end++) {
            error(script.substring(0, end), end);
        }
        formed(script.substring(0, shortest));
        formed(script);
    }

    private static void form(Sentences s) {
        s.in("Scripts").says("It has the form", "`script =")
            .test("one command, and more", d -> {
                formed("most");
                formed("most;day");
                formed("most;".repeat(11) + "most");
                formed(SIXTY);
            })
            .test("no command before, between and behind semicolons", d -> {
                error("", 0);
                error(";", 0);
                error(";most", 0);
                error("most;;most", 5);
                error("most;", 5);
            });
        s.says("`command =")
            .test("the beginnings of every command", d -> {
                beginnings("hammer 1 2", 10);
                beginnings("move 3 4", 8);
                beginnings("swap 567", 8);
                beginnings("ask 8 9~0 1-2", 13);
                beginnings("drop 3", 6);
                beginnings("grant 4", 7);
                beginnings("most", 4);
                beginnings("back 5 6 7", 10);
                beginnings("face 8", 6);
                beginnings("day", 3);
                beginnings("day 9", 3);
            })
            .test("the beginnings of a second command", d -> {
                for (String command : new String[] {"hammer 1 2", "ask 8 9~0 1-2", "back 5 6 7", "swap 567"}) {
                    for (int end = 0; end < command.length(); end++) {
                        error("most;" + command.substring(0, end), 5 + end);
                    }
                    formed("most;" + command);
                }
            })
            .test("the longest commands, and a character more", d -> {
                String[] longest = {
                    "hammer 999 9", "move 999 9", "swap 999", "ask 9 999~999 999-999", "drop 999", "grant 999", "most",
                    "back 999 999 9", "face 999", "day 999"
                };
                for (String command : longest) {
                    formed(command);
                    for (char more : new char[] {'0', ' ', 'x', '-', '~'}) {
                        error(command + more, command.length());
                    }
                }
            })
            .test("one space, not none and not two", d -> {
                error("hammer1 2", 6);
                error("hammer 12", 9);
                error("hammer 123", 10);
                error("hammer 1234", 10);
                error("hammer  1 2", 7);
                error("hammer 1  2", 9);
                error("swap  012", 5);
                error("swap 0 12", 6);
                error("ask 1 2 ~3 4-5", 7);
                error("ask 1 2~ 3 4-5", 8);
                error("ask 1 2~3 4 -5", 11);
                error("ask 1 2~3 4- 5", 12);
                error("day  1", 4);
                error(" day", 0);
                error("day ", 4);
                error("day ;day", 4);
            })
            .test("a digit where one digit is asked for", d -> {
                error("hammer 1 23", 10);
                error("move 1 23", 8);
                error("swap 0123", 8);
                error("ask 12 3~4 5-6", 5);
                error("back 1 2 34", 10);
            })
            .test("other letters", d -> {
                error("Day", 0);
                error("daY", 2);
                error("h0", 1);
                error("moxe 1 2", 2);
                error("moss", 3);
                error("mosu", 3);
                error("grand 1", 4);
                error("bask 1 2", 2);
                error("fade 1", 2);
                error("dray", 2);
                error("droq", 3);
                error("swam 012", 3);
                error("asp", 2);
            });
        s.says("`number =", "where braces mean")
            .test("one digit, two and three, not none and not four", d -> {
                String[][] around = {
                    {"hammer ", " 1"}, {"move ", " 1"}, {"ask 1 ", "~1 1-1"}, {"ask 1 1~", " 1-1"}, {"ask 1 1~1 ", "-1"}, {"ask 1 1~1 1-", ""},
                    {"drop ", ""}, {"grant ", ""}, {"back ", " 1 1"}, {"back 1 ", " 1"}, {"face ", ""}, {"day ", ""}
                };
                for (String[] a : around) {
                    for (String number : new String[] {"0", "9", "00", "99", "000", "999"}) {
                        formed(a[0] + number + a[1]);
                    }
                    error(a[0] + a[1], a[0].length());
                    error(a[0] + "1234" + a[1], a[0].length() + 3);
                    error(a[0] + "-1" + a[1], a[0].length());
                    error(a[0] + "x" + a[1], a[0].length());
                    error(a[0] + "1x" + a[1], a[0].length() + 1);
                }
            })
            .test("the characters beside the digits", d -> {
                error("drop /", 5);
                error("drop :", 5);
                error("swap /12", 5);
                error("swap 0:2", 6);
            })
            .test("zeros in front", d -> {
                Check.due("pitch 007", Check.run(d, "hammer 007 0"), 1);
                Check.due("pitch", d.pitch(0), 7);
            });
    }

    private static void errors(Sentences s) {
        s.in("Scripts").says("The error position of a script that does not have this form")
            .test("the first character, one in the midst, the last one", d -> {
                error("xay", 0);
                error("dxy", 1);
                error("dax", 2);
                error("dayx", 3);
                error("swap 01x", 7);
            })
            .test("the end comes too early", d -> {
                error("", 0);
                error("d", 1);
                error("mo", 2);
                error("move 1 ", 7);
                error("day;", 4);
                error("day;m", 5);
            })
            .test("the first of several", d -> {
                error("dxy;dxy", 1);
                error("day;xx;xx", 4);
                error("most;mosst;", 8);
            })
            .test("the character may continue one command but not another", d -> {
                error("mov", 3);
                error("mos", 3);
                error("moz", 2);
                error("da", 2);
                error("dr", 2);
                error("dz", 1);
                error("daop 1", 2);
                error("mosve 1 2", 3);
            })
            .test("with 60 characters", d -> {
                error("day;".repeat(14) + "dayx", 59);
                error("day;".repeat(15), 60);
                error("day;".repeat(14) + "da;d", 58);
                error("most;".repeat(12), 60);
                error("x".repeat(60), 0);
            });
    }

    private static void hammerCommands(Sentences s) {
        s.in("Scripts").says("The commands stand for the methods")
            .test("hammer", d -> {
                Check.due("runScript", Check.run(d, "hammer 60 2;hammer 0 0"), 2);
                Check.due("pitch", d.pitch(0), 60);
                Check.due("rack", d.rackOf(0), 2);
                Check.due("pitch", d.pitch(1), 0);
                Check.due("pitch 61", Check.run(d, "hammer 61 0"), STATE);
                Check.due("rack 3", Check.run(d, "hammer 0 3"), STATE);
                Check.due("hammerCount", d.hammerCount(), 2);
            })
            .test("move", d -> {
                Depots.into(d, 0, 10, 20);
                Check.due("runScript", Check.run(d, "move 1 2"), 1);
                Check.due("rack", d.rackOf(1), 2);
                Check.due("hammer 2", Check.run(d, "move 2 0"), STATE);
                Check.due("rack 3", Check.run(d, "move 0 3"), STATE);
            })
            .test("swap", d -> {
                Depots.into(d, 1, 10, 20);
                Check.due("runScript", Check.run(d, "swap 105"), 1);
                Check.due("the rack", Depots.rack(d, 1), "-,1,-,-,-,0");
                Check.due("place 6", Check.run(d, "swap 106"), STATE);
                Check.due("the same", Check.run(d, "swap 100"), STATE);
            })
            .test("back", d -> {
                Depots.into(d, 0, 10, 20);
                Depots.lend(d, 20, 1);
                Check.due("runScript", Check.run(d, "back 1 999 2"), 1);
                Check.due("wear", d.wear(1), 99);
                Check.due("rack", d.rackOf(1), 2);
                Check.due("not lent", Check.run(d, "back 0 0 1"), STATE);
            })
            .test("face", d -> {
                Depots.into(d, 0, 10, 20);
                Depots.wearOff(d, 1, 7, 0);
                Check.due("runScript", Check.run(d, "face 1"), 1);
                Check.due("wear", d.wear(1), 0);
                Check.due("coins", d.coins(), 19);
                Check.due("hammer 2", Check.run(d, "face 2"), STATE);
            });
    }

    private static void requestCommands(Sentences s) {
        s.in("Scripts").says("The commands stand for the methods")
            .test("ask", d -> {
                Depots.into(d, 0, 30, 36);
                Check.due("runScript", Check.run(d, "ask 9 33~3 2-40"), 1);
                Check.due("the tolerance below", d.fits(0, 0), true);
                Check.due("the tolerance above", d.fits(0, 1), true);
                d.grant(0);
                Check.due("the day before", d.isBooked(0, 1), false);
                Check.due("the first day", d.isBooked(0, 2), true);
                Check.due("the last day", d.isBooked(0, 40), true);
                d.passDays(2);
                Check.due("borrower", d.borrower(0), 9);
                Check.due("dueDay", d.dueDay(0), 40);
                Check.due("tolerance 13", Check.run(d, "ask 9 33~13 3-4"), STATE);
                Check.due("day 43", Check.run(d, "ask 9 33~3 3-43"), STATE);
            })
            .test("drop", d -> {
                d.request(0, 0, 0, 1, 1);
                d.request(0, 0, 0, 1, 1);
                Check.due("runScript", Check.run(d, "drop 0"), 1);
                Check.due("the one that waits", d.requestAt(0), 1);
                Check.due("again", Check.run(d, "drop 0"), STATE);
            })
            .test("grant", d -> {
                Depots.into(d, 0, 35, 30);
                d.request(0, 30, 12, 1, 1);
                d.request(0, 30, 12, 1, 1);
                Check.due("runScript", Check.run(d, "grant 1"), 1);
                Check.due("the best hammer", d.bookings(1), 1);
                Check.due("the one that waits", d.requestAt(0), 0);
                Check.due("again", Check.run(d, "grant 1"), STATE);
            })
            .test("most", d -> {
                Depots.into(d, 0, 35, 30);
                d.request(0, 30, 12, 1, 1);
                Check.due("runScript", Check.run(d, "most"), 1);
                Check.due("the first hammer", d.bookings(0), 1);
                Check.due("requestCount", d.requestCount(), 0);
            })
            .test("day", d -> {
                Check.due("without a number", Check.run(d, "day"), 1);
                Check.due("1 day", d.day(), 1);
                Check.due("30", Check.run(d, "day 30"), 1);
                Check.due("31 days", d.day(), 31);
                Check.due("01", Check.run(d, "day 01"), 1);
                Check.due("32 days", d.day(), 32);
                Check.due("0", Check.run(d, "day 0"), STATE);
                Check.due("31", Check.run(d, "day 31"), STATE);
                Check.due("32 days", d.day(), 32);
            });
    }

    private static void otherCommands(Sentences s) {
        s.in("Scripts").says("The commands stand for the methods")
            .test("a number of an earlier command is not kept", d -> {
                Check.due("runScript", Check.run(d, "day 9;day;day 3;day"), 4);
                Check.due("day", d.day(), 14);
                Check.due("another script", Check.run(d, "day"), 1);
                Check.due("day", d.day(), 15);
            })
            .test("each command of a script has its own numbers", d -> {
                Check.due("runScript", Check.run(d, "hammer 1 0;hammer 2 1;hammer 3 2;swap 001;move 2 1;day 2"), 6);
                Check.due("rack 0", Depots.rack(d, 0), "-,0,-,-,-,-");
                Check.due("rack 1", Depots.rack(d, 1), "1,2,-,-,-,-");
                Check.due("pitch", d.pitch(2), 3);
                Check.due("day", d.day(), 2);
            });
    }

    private static void inOrder(Sentences s) {
        s.in("Scripts").says("The commands are executed in order, and either all of them take effect or none")
            .test("in order", d -> {
                Check.due("runScript", Check.run(d, "hammer 30 0;ask 1 30~0 1-1;grant 0;day;back 0 50 2"), 5);
                Check.due("the hammer", Depots.hammer(d, 0), "0p30w5");
                Check.due("rack", d.rackOf(0), 2);
            })
            .test("in no other order", d -> {
                Check.due("runScript", Check.run(d, "hammer 30 0;grant 0;ask 1 30~0 1-1"), STATE);
                Check.due("hammerCount", d.hammerCount(), 0);
            })
            .test("none, if the last one of many fails", d -> {
                d.addHammer(30, 0);
                Check.due("runScript", Check.run(d, "day;".repeat(13) + "day 0"), STATE);
                Check.due("failedCommand", d.failedCommand(), 13);
                Check.due("day", d.day(), 0);
                Check.due("undo", d.undo(), 0);
            })
            .test("none, though more changes than can be undone took place", d -> {
                Depots.into(d, 0, 30);
                Check.due("runScript", Check.run(d, "day;".repeat(10) + "move 0 1;move 0 1"), STATE);
                Check.due("day", d.day(), 0);
                Check.due("rack", d.rackOf(0), 0);
            })
            .test("none of each kind", unused -> {
                String[] commands = {
                    "hammer 1 0", "move 2 0", "swap 015", "ask 0 1~2 6-7", "drop 4", "grant 7", "most", "back 0 9 1", "face 1", "day"
                };
                for (String command : commands) {
                    HammerDepot d = Depots.busy();
                    Check.outcome(d::runScript);
                    HammerDepot other = Depots.busy();
                    Check.outcome(other::runScript);
                    d.undo();
                    other.undo();
                    Check.due(command + " and day 0", Check.run(d, command + ";day 0"), STATE);
                    Check.due(command + " fails not", d.failedCommand(), 1);
                    Check.due("face after " + command, Check.face(d), Check.face(other));
                }
            });
    }

    private static void type(Sentences s) {
        s.promise(48).says("Appends a character to the script buffer")
            .test("behind the others", d -> {
                d.type('d');
                d.type('a');
                d.type('y');
                Check.due("runScript", d.runScript(), 1);
                Check.due("day", d.day(), 1);
            });
        s.says("Returns the length of the script buffer")
            .test("from 1 to 60", d -> {
                for (int length = 1; length <= 60; length++) {
                    Check.due("length", d.type('x'), length);
                }
            })
            .test("1 again after runScript", d -> {
                Check.run(d, "xyz");
                Check.due("after a bad script", d.type('d'), 1);
                Check.run(d, "ay");
                Check.due("after a good script", d.type('d'), 1);
                Check.run(d, "ay 0");
                Check.due("after a failed script", d.type('d'), 1);
            });
        s.says("Throws `IllegalArgumentException` if the character code is not between 32 and 126")
            .test("32 and 126", d -> {
                Check.due("32", d.type((char) 32), 1);
                Check.due("126", d.type((char) 126), 2);
            })
            .test("too low and too high", d -> {
                for (int code : new int[] {0, 9, 10, 31, 127, 128, 160, 255, 256 + 'd', 32767, 32768, 65535}) {
                    Check.refused("code " + code, ARGUMENT, () -> d.type((char) code));
                }
                Check.due("nothing was appended", d.type('x'), 1);
            });
        s.says("Throws `IllegalStateException` if the script buffer has 60 characters")
            .test("the 60th and the 61st", d -> {
                for (int i = 0; i < 59; i++) {
                    d.type('x');
                }
                Check.due("the 60th", d.type('x'), 60);
                Check.refused("the 61st", STATE, () -> d.type('x'));
                Check.refused("once more", STATE, () -> d.type(' '));
                Check.outcome(d::runScript);
                Check.due("empty again", d.type('x'), 1);
            });
    }

    private static void runScript(Sentences s) {
        s.promise(49).says("Runs the script in the script buffer")
            .test("one command", d -> {
                Check.run(d, "hammer 30 0");
                Check.due("pitch", d.pitch(0), 30);
            });
        s.says("The buffer is empty afterwards, also if an exception is thrown")
            .test("after a good script", d -> {
                Check.run(d, "day");
                Check.refused("the empty script", ARGUMENT, d::runScript);
                Check.due("errorPosition", d.errorPosition(), 0);
                Check.due("day", d.day(), 1);
            })
            .test("after a script without the form", d -> {
                Check.run(d, "day x");
                Check.refused("the empty script", ARGUMENT, d::runScript);
                Check.due("errorPosition", d.errorPosition(), 0);
                Check.due("type", d.type('x'), 1);
            })
            .test("after a failed script", d -> {
                Check.run(d, "day 0");
                Check.refused("the empty script", ARGUMENT, d::runScript);
                Check.due("type", d.type('x'), 1);
            });
        s.says("Returns the number of commands")
            .test("1, 2, 15", d -> {
                Check.due("1", Check.run(d, "most"), 1);
                Check.due("2", Check.run(d, "most;day"), 2);
                Check.due("15", Check.run(d, "day;".repeat(14) + "day"), 15);
            });
        s.says("Throws `IllegalArgumentException` if the script does not have the required form")
            .test("empty", d -> {
                Check.refused("runScript", ARGUMENT, d::runScript);
                Check.due("errorPosition", d.errorPosition(), 0);
            })
            .test("no command takes effect", d -> {
                Check.due("runScript", Check.run(d, "day;hammer 30 0;day;x"), ARGUMENT);
                Check.due("errorPosition", d.errorPosition(), 20);
                Check.due("day", d.day(), 0);
                Check.due("hammerCount", d.hammerCount(), 0);
                Check.refused("undo", STATE, d::undo);
            })
            .test("the form goes before a failing command", d -> {
                Check.due("runScript", Check.run(d, "day 0;x"), ARGUMENT);
                Check.due("errorPosition", d.errorPosition(), 6);
                Check.refused("failedCommand", ELEMENT, d::failedCommand);
            });
    }

    private static void failures(Sentences s) {
        s.promise(49).says("Throws `IllegalStateException` if the method for a command throws an exception")
            .test("for every exception of every method", unused -> {
                String[] commands = {
                    "hammer 61 0", "hammer 0 3", "hammer 0 9", "hammer 999 0", "move 6 0", "move 0 3", "move 0 0", "move 2 1", "swap 301", "swap 061",
                    "swap 016", "swap 011", "ask 0 61~0 7-7", "ask 0 0~13 7-7", "ask 0 0~0 5-7", "ask 0 0~0 8-7", "ask 0 0~0 7-46",
                    "drop 8", "drop 0", "grant 8", "grant 4", "grant 5", "back 6 0 0", "back 0 0 3", "back 2 0 0", "face 6", "face 0", "day 0", "day 31"
                };
                for (String command : commands) {
                    HammerDepot d = Depots.busy();
                    Check.outcome(d::runScript);
                    d.undo();
                    Check.due("face 1;" + command, Check.run(d, "face 1;" + command), STATE);
                    Check.due("failedCommand of " + command, d.failedCommand(), 1);
                    Check.due("wear", d.wear(1), 44);
                }
            })
            .test("full racks, hammers and requests, and too few coins", d -> {
                Depots.into(d, 0, 1, 2, 3, 4, 5, 6);
                Check.due("a full rack", Check.run(d, "hammer 7 0"), STATE);
                Check.due("twelve and one more", Check.run(d, "hammer 7 1;hammer 7 1;hammer 7 1;hammer 7 1"), 4);
                Check.due("twelve and one more", Check.run(d, "hammer 7 1;hammer 7 1;hammer 7 2"), STATE);
                Check.due("failedCommand", d.failedCommand(), 2);
                for (int i = 0; i < 7; i++) {
                    d.request(i, 60, 0, 1, 1);
                }
                Check.due("nine requests", Check.run(d, "ask 0 60~0 1-1;ask 0 60~0 1-1"), STATE);
                Check.due("failedCommand", d.failedCommand(), 1);
                Check.due("requestCount", d.requestCount(), 7);
            })
            .test("too few coins", d -> {
                Depots.into(d, 0, 30, 31);
                Depots.wearOff(d, 0, 99, 0);
                Depots.wearOff(d, 1, 99, 0);
                Check.due("both faces", Check.run(d, "face 0;face 1"), STATE);
                Check.due("failedCommand", d.failedCommand(), 1);
                Check.due("coins", d.coins(), 22);
                Check.due("wear", d.wear(0), 99);
                Check.due("one face", Check.run(d, "face 0"), 1);
            })
            .test("the commands behind it do not run", d -> {
                Check.due("runScript", Check.run(d, "day 0;day;hammer 30 0"), STATE);
                Check.due("failedCommand", d.failedCommand(), 0);
                Check.due("day", d.day(), 0);
                Check.due("hammerCount", d.hammerCount(), 0);
            })
            .test("the next id of a request", d -> {
                Check.due("runScript", Check.run(d, "ask 0 0~0 1-1;drop 0;drop 0"), STATE);
                Check.due("id", d.request(0, 0, 0, 1, 1), 0);
            });
    }

    private static void positions(Sentences s) {
        s.promise(50).says("Returns the error position of the latest script", "Returns the error position.")
            .test("the latest one", d -> {
                Check.run(d, "dax");
                Check.due("the first", d.errorPosition(), 2);
                Check.run(d, "day;x");
                Check.due("the second", d.errorPosition(), 4);
                Check.refused("the empty one", ARGUMENT, d::runScript);
                Check.due("the third", d.errorPosition(), 0);
            })
            .test("good and failed scripts between", d -> {
                Check.run(d, "dax");
                Check.run(d, "day");
                Check.due("after a good one", d.errorPosition(), 2);
                Check.run(d, "day;day;day;day 0");
                Check.due("after a failed one", d.errorPosition(), 2);
            });
        s.says("Throws")
            .test("no such script", d -> {
                Check.refused("no script", ELEMENT, d::errorPosition);
                Check.run(d, "day");
                Check.refused("a good one", ELEMENT, d::errorPosition);
                Check.run(d, "day 0");
                Check.refused("a failed one", ELEMENT, d::errorPosition);
                Check.type(d, "xx");
                Check.refused("one that has not run", ELEMENT, d::errorPosition);
            });
        s.promise(51).says("Returns the index of the command that failed", "Returns the index of the command, counted from 0")
            .test("from 0 to 13", d -> {
                StringBuilder script = new StringBuilder("day 0");
                for (int index = 0; index < 14; index++) {
                    HammerDepot other = new HammerDepot();
                    Check.due("runScript", Check.run(other, script.toString()), STATE);
                    Check.due("failedCommand", other.failedCommand(), index);
                    script.insert(0, "day;");
                }
            })
            .test("good scripts and such without the form between", d -> {
                Check.run(d, "day;day 0");
                Check.run(d, "day");
                Check.due("after a good one", d.failedCommand(), 1);
                Check.run(d, "day;day;x");
                Check.due("after one without the form", d.failedCommand(), 1);
                Check.run(d, "day 0");
                Check.due("the latest", d.failedCommand(), 0);
            });
        s.says("Throws")
            .test("no such script", d -> {
                Check.refused("no script", ELEMENT, d::failedCommand);
                Check.run(d, "day");
                Check.refused("a good one", ELEMENT, d::failedCommand);
                Check.run(d, "dax");
                Check.refused("one without the form", ELEMENT, d::failedCommand);
                Check.outcome(() -> d.passDays(0));
                Check.refused("a call that failed", ELEMENT, d::failedCommand);
            });
    }
}
