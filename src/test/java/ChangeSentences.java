import java.util.NoSuchElementException;

/** Tests for the sentences of the promises 1 to 11: a new object and the changes. */
final class ChangeSentences {
    private static final Class<IndexOutOfBoundsException> INDEX = IndexOutOfBoundsException.class;
    private static final Class<IllegalArgumentException> ARGUMENT = IllegalArgumentException.class;
    private static final Class<IllegalStateException> STATE = IllegalStateException.class;
    private static final Class<NoSuchElementException> ELEMENT = NoSuchElementException.class;
    private static final Class<UnsupportedOperationException> UNSUPPORTED = UnsupportedOperationException.class;

    private ChangeSentences() {
    }

    static void all(Sentences s) {
        newObject(s);
        addHammer(s);
        moveHammer(s);
        swapPlaces(s);
        requestAnswers(s);
        requestArguments(s);
        cancelRequest(s);
        grant(s);
        grantMost(s);
        giveBack(s);
        giveBackRefused(s);
        renewFace(s);
        passDays(s);
    }

    private static void newObject(Sentences s) {
        s.promise(1).says("Creates a depot without hammers and requests on day 0")
            .test("what it holds", d -> {
                Check.due("hammerCount", d.hammerCount(), 0);
                Check.due("requestCount", d.requestCount(), 0);
                Check.due("day", d.day(), 0);
                Check.due("coins", d.coins(), 20);
                Check.due("brokenTotal", d.brokenTotal(), 0);
                Check.due("lentTotal", d.lentTotal(), 0);
                for (int rack = 0; rack < 3; rack++) {
                    Check.due("rack " + rack, Depots.rack(d, rack), "-,-,-,-,-,-");
                }
            })
            .test("the first answers", d -> {
                Check.refused("undo", STATE, d::undo);
                Check.refused("restore", STATE, d::restore);
                Check.refused("errorPosition", ELEMENT, d::errorPosition);
                Check.refused("failedCommand", ELEMENT, d::failedCommand);
                Check.refused("outputAt", INDEX, () -> d.outputAt(0));
                Check.due("type", d.type(' '), 1);
            })
            .test("two depots share nothing", d -> {
                d.addHammer(30, 0);
                d.request(1, 30, 0, 1, 1);
                d.save();
                d.passDays(3);
                Check.run(d, "x");
                Check.run(d, "day 0");
                d.type('x');
                d.renderRack(0);
                HammerDepot other = new HammerDepot();
                Check.due("the same as new", Depots.everything(other), Depots.everything(new HammerDepot()));
                Check.refused("undo", STATE, other::undo);
                Check.refused("restore", STATE, other::restore);
                Check.due("type", other.type('x'), 1);
                Check.due("the first id", other.request(0, 0, 0, 1, 1), 0);
            });
    }

    private static void addHammer(Sentences s) {
        s.promise(2).says("Adds a hammer and puts it into a rack")
            .test("the first and the last rack", d -> {
                d.addHammer(10, 0);
                d.addHammer(20, 2);
                Check.due("rack 0", Depots.rack(d, 0), "0,-,-,-,-,-");
                Check.due("rack 1", Depots.rack(d, 1), "-,-,-,-,-,-");
                Check.due("rack 2", Depots.rack(d, 2), "1,-,-,-,-,-");
            });
        s.says("Returns the index of the hammer")
            .test("from 0 to 11", d -> {
                for (int i = 0; i < 12; i++) {
                    Check.due("index", d.addHammer(60 - i, i / 4), i);
                    Check.due("hammerCount", d.hammerCount(), i + 1);
                }
            });
        s.says("Throws `IllegalArgumentException` if pitch is not between 0 and 60")
            .test("0 and 60", d -> {
                Check.due("0", d.addHammer(0, 0), 0);
                Check.due("60", d.addHammer(60, 0), 1);
            })
            .test("too low and too high", d -> {
                for (int pitch : new int[] {-1, 61, -60, Integer.MIN_VALUE, Integer.MAX_VALUE}) {
                    Check.refused("pitch " + pitch, ARGUMENT, () -> d.addHammer(pitch, 0));
                }
                Check.due("hammerCount", d.hammerCount(), 0);
            });
        s.says("Throws `IndexOutOfBoundsException`")
            .test("too low and too high", d -> {
                for (int rack : new int[] {-1, 3, Integer.MIN_VALUE, Integer.MAX_VALUE}) {
                    Check.refused("rack " + rack, INDEX, () -> d.addHammer(0, rack));
                }
                Check.due("hammerCount", d.hammerCount(), 0);
            });
        s.says("Throws `IllegalStateException`")
            .test("twelve hammers, and room in the rack", d -> {
                for (int i = 0; i < 11; i++) {
                    d.addHammer(i, i % 3);
                }
                Check.due("the twelfth", d.addHammer(11, 2), 11);
                for (int rack = 0; rack < 3; rack++) {
                    int r = rack;
                    Check.refused("the thirteenth", STATE, () -> d.addHammer(12, r));
                }
                d.undo();
                Check.due("the twelfth again", d.addHammer(12, 2), 11);
            })
            .test("the rack has no free place", d -> {
                for (int rack = 0; rack < 3; rack++) {
                    HammerDepot other = new HammerDepot();
                    int r = rack;
                    Depots.into(other, r, 1, 2, 3, 4, 5);
                    Check.due("the sixth", other.addHammer(6, r), 5);
                    Check.refused("the seventh", STATE, () -> other.addHammer(7, r));
                    Check.due("another rack", other.addHammer(7, (r + 1) % 3), 6);
                    other.moveHammer(2, (r + 1) % 3);
                    Check.due("into the gap", other.addHammer(8, r), 7);
                    Check.due("the place", other.placeOf(7), 2);
                }
            });
    }

    private static void moveHammer(Sentences s) {
        s.promise(3).says("Takes a hammer out of its rack and puts it into another one")
            .test("both racks", d -> {
                Depots.into(d, 0, 10, 20, 30);
                d.moveHammer(1, 2);
                Check.due("the old rack", Depots.rack(d, 0), "0,-,2,-,-,-");
                Check.due("the other rack", Depots.rack(d, 2), "1,-,-,-,-,-");
                Check.due("rackOf", d.rackOf(1), 2);
                Check.due("placeOf", d.placeOf(1), 0);
            })
            .test("to every rack and back", d -> {
                d.addHammer(10, 0);
                for (int rack : new int[] {2, 1, 0, 1, 2, 0}) {
                    Check.due("place", d.moveHammer(0, rack), 0);
                    Check.due("rack", d.rackOf(0), rack);
                }
            });
        s.says("Returns the place in the other rack")
            .test("from 0 to 5", d -> {
                Depots.into(d, 0, 1, 2, 3, 4, 5, 6);
                for (int hammer = 0; hammer < 6; hammer++) {
                    Check.due("place", d.moveHammer(hammer, 1), hammer);
                }
            })
            .test("a gap, and the place of before is another one", d -> {
                Depots.into(d, 0, 1, 2, 3);
                Depots.into(d, 1, 4, 5, 6);
                d.swapPlaces(1, 1, 5);
                Check.due("place", d.moveHammer(2, 1), 1);
            });
        s.says("Throws `IndexOutOfBoundsException`")
            .test("no hammers at all", d -> Check.refused("hammer 0", INDEX, () -> d.moveHammer(0, 0)))
            .test("no such hammer", d -> {
                Depots.into(d, 0, 10, 20);
                for (int hammer : new int[] {-1, 2, 12, Integer.MIN_VALUE, Integer.MAX_VALUE}) {
                    Check.refused("hammer " + hammer, INDEX, () -> d.moveHammer(hammer, 1));
                }
                Check.due("the last hammer", d.moveHammer(1, 1), 0);
            })
            .test("hammer 12 of twelve", d -> {
                for (int i = 0; i < 12; i++) {
                    d.addHammer(i, i % 2);
                }
                Check.refused("hammer 12", INDEX, () -> d.moveHammer(12, 2));
                Check.due("hammer 11", d.moveHammer(11, 2), 0);
            })
            .test("no such rack", d -> {
                d.addHammer(10, 0);
                for (int rack : new int[] {-1, 3, Integer.MIN_VALUE, Integer.MAX_VALUE}) {
                    Check.refused("rack " + rack, INDEX, () -> d.moveHammer(0, rack));
                }
            });
        s.says("Throws `IllegalStateException`")
            .test("lent", d -> {
                Depots.into(d, 0, 10, 20);
                Depots.lend(d, 20, 1);
                for (int rack = 0; rack < 3; rack++) {
                    int r = rack;
                    Check.refused("rack " + rack, STATE, () -> d.moveHammer(1, r));
                }
            })
            .test("lies in this rack", d -> {
                for (int rack = 0; rack < 3; rack++) {
                    int r = rack;
                    d.addHammer(10, r);
                    Check.refused("rack " + rack, STATE, () -> d.moveHammer(r, r));
                    Check.due("place", d.placeOf(r), 0);
                }
            })
            .test("no free place", d -> {
                Depots.into(d, 1, 1, 2, 3, 4, 5);
                Depots.into(d, 0, 6, 7);
                Check.due("the last free place", d.moveHammer(5, 1), 5);
                Check.refused("full", STATE, () -> d.moveHammer(6, 1));
                Check.refused("full, and lies in it", STATE, () -> d.moveHammer(5, 1));
            });
    }

    private static void swapPlaces(Sentences s) {
        s.promise(4).says("Exchanges the contents of two places of a rack")
            .test("the first and the last place, in both orders", d -> {
                Depots.into(d, 2, 1, 2, 3, 4, 5, 6);
                d.swapPlaces(2, 0, 5);
                Check.due("once", Depots.rack(d, 2), "5,1,2,3,4,0");
                Check.due("placeOf", d.placeOf(0), 5);
                Check.due("placeOf", d.placeOf(5), 0);
                d.swapPlaces(2, 5, 0);
                Check.due("twice", Depots.rack(d, 2), "0,1,2,3,4,5");
            })
            .test("with a free place, in both orders", d -> {
                d.addHammer(1, 1);
                d.swapPlaces(1, 0, 3);
                Check.due("there", Depots.rack(d, 1), "-,-,-,0,-,-");
                Check.due("placeOf", d.placeOf(0), 3);
                d.swapPlaces(1, 0, 3);
                Check.due("back", Depots.rack(d, 1), "0,-,-,-,-,-");
            })
            .test("two free places", d -> {
                Check.due("swaps", d.swapPlaces(0, 4, 5), 0);
                Check.due("the rack", Depots.rack(d, 0), "-,-,-,-,-,-");
                Check.due("a change", d.undo(), 0);
            })
            .test("the other racks", d -> {
                Depots.into(d, 0, 1, 2);
                Depots.into(d, 1, 3, 4);
                d.swapPlaces(0, 0, 1);
                Check.due("rack 1", Depots.rack(d, 1), "2,3,-,-,-,-");
                Check.due("rackOf", d.rackOf(0), 0);
            });
        s.says("Returns the smallest number of swaps")
            .test("after the call, not before", d -> {
                Depots.into(d, 0, 1, 2, 3);
                Check.due("from sorted", d.swapPlaces(0, 0, 2), 1);
                Check.due("further", d.swapPlaces(0, 1, 2), 2);
                Check.due("nearer", d.swapPlaces(0, 1, 2), 1);
                Check.due("sorted", d.swapPlaces(0, 0, 2), 0);
            });
        s.says("Throws `IndexOutOfBoundsException`")
            .test("no such rack", d -> {
                for (int rack : new int[] {-1, 3, Integer.MIN_VALUE, Integer.MAX_VALUE}) {
                    Check.refused("rack " + rack, INDEX, () -> d.swapPlaces(rack, 0, 1));
                }
            })
            .test("no such place", d -> {
                Depots.into(d, 1, 1, 2, 3, 4, 5, 6);
                for (int place : new int[] {-1, 6, Integer.MIN_VALUE, Integer.MAX_VALUE}) {
                    for (int rack = 0; rack < 3; rack++) {
                        int r = rack;
                        Check.refused("first " + place, INDEX, () -> d.swapPlaces(r, place, 0));
                        Check.refused("second " + place, INDEX, () -> d.swapPlaces(r, 0, place));
                    }
                }
                Check.due("the rack", Depots.rack(d, 1), "0,1,2,3,4,5");
            });
        s.says("Throws `IllegalArgumentException` if both places are the same")
            .test("every place, with a hammer and free", d -> {
                Depots.into(d, 0, 1, 2);
                for (int place = 0; place < 6; place++) {
                    int p = place;
                    Check.refused("place " + place, ARGUMENT, () -> d.swapPlaces(0, p, p));
                }
            });
    }

    private static void requestAnswers(Sentences s) {
        s.promise(5).says("Makes a request, which waits")
            .test("it waits behind the others", d -> {
                d.request(0, 0, 0, 9, 9);
                d.request(0, 0, 0, 1, 1);
                Check.due("requestCount", d.requestCount(), 2);
                Check.due("the last one", d.requestAt(1), 1);
            })
            .test("it waits until it is granted or cancelled, though its days have passed", d -> {
                d.request(0, 0, 0, 1, 1);
                d.passDays(30);
                Check.due("requestCount", d.requestCount(), 1);
            });
        s.says("Returns the id of the request")
            .test("0 and on", d -> {
                for (int id = 0; id < 8; id++) {
                    Check.due("id", d.request(id, 0, 0, 1, 1), id);
                }
            })
            .test("after undo the id is free again", d -> {
                d.request(0, 0, 0, 1, 1);
                d.request(0, 0, 0, 1, 1);
                d.undo();
                Check.due("id", d.request(0, 0, 0, 1, 1), 1);
            });
        s.says("Throws `IllegalStateException` if 8 requests wait")
            .test("the eighth and the ninth", d -> {
                for (int id = 0; id < 7; id++) {
                    d.request(id, 0, 0, 1, 1);
                }
                Check.due("the eighth", d.request(7, 0, 0, 1, 1), 7);
                Check.refused("the ninth", STATE, () -> d.request(8, 0, 0, 1, 1));
                d.cancelRequest(0);
                Check.due("the next", d.request(8, 0, 0, 1, 1), 8);
            });
    }

    private static void requestArguments(Sentences s) {
        s.promise(5).says("Throws `IllegalArgumentException` if borrower is not between 0 and 9")
            .test("borrower", d -> {
                Check.due("0", d.request(0, 30, 3, 1, 1), 0);
                Check.due("9", d.request(9, 30, 3, 1, 1), 1);
                for (int b : new int[] {-1, 10, Integer.MIN_VALUE, Integer.MAX_VALUE}) {
                    Check.refused("" + b, ARGUMENT, () -> d.request(b, 30, 3, 1, 1));
                }
            })
            .test("pitch", d -> {
                Check.due("0", d.request(1, 0, 3, 1, 1), 0);
                Check.due("60", d.request(1, 60, 3, 1, 1), 1);
                for (int p : new int[] {-1, 61, Integer.MIN_VALUE, Integer.MAX_VALUE}) {
                    Check.refused("" + p, ARGUMENT, () -> d.request(1, p, 3, 1, 1));
                }
            })
            .test("tolerance", d -> {
                Check.due("0", d.request(1, 30, 0, 1, 1), 0);
                Check.due("12", d.request(1, 30, 12, 1, 1), 1);
                for (int t : new int[] {-1, 13, Integer.MIN_VALUE, Integer.MAX_VALUE}) {
                    Check.refused("" + t, ARGUMENT, () -> d.request(1, 30, t, 1, 1));
                }
            })
            .test("firstDay on day 0", d -> {
                Check.due("1", d.request(1, 30, 3, 1, 3), 0);
                for (int first : new int[] {0, -1, Integer.MIN_VALUE}) {
                    Check.refused("" + first, ARGUMENT, () -> d.request(1, 30, 3, first, 3));
                }
            })
            .test("firstDay on day 7", d -> {
                d.passDays(7);
                Check.due("8", d.request(1, 30, 3, 8, 9), 0);
                for (int first : new int[] {7, 6, 1, 0, -1}) {
                    Check.refused("" + first, ARGUMENT, () -> d.request(1, 30, 3, first, 9));
                }
            })
            .test("lastDay less than firstDay", d -> {
                Check.due("the same", d.request(1, 30, 3, 5, 5), 0);
                for (int last : new int[] {4, 1, 0, -1, Integer.MIN_VALUE}) {
                    Check.refused("" + last, ARGUMENT, () -> d.request(1, 30, 3, 5, last));
                }
            })
            .test("lastDay on day 0", d -> {
                Check.due("40", d.request(1, 30, 3, 1, 40), 0);
                Check.due("40 alone", d.request(1, 30, 3, 40, 40), 1);
                for (int last : new int[] {41, 42, 1000, Integer.MAX_VALUE}) {
                    Check.refused("" + last, ARGUMENT, () -> d.request(1, 30, 3, 1, last));
                    Check.refused(last + " alone", ARGUMENT, () -> d.request(1, 30, 3, last, last));
                }
            })
            .test("lastDay on day 37", d -> {
                d.passDays(30);
                d.passDays(7);
                Check.due("77", d.request(1, 30, 3, 38, 77), 0);
                Check.refused("78", ARGUMENT, () -> d.request(1, 30, 3, 38, 78));
            })
            .test("the day counter before it was undone", d -> {
                d.passDays(10);
                d.undo();
                Check.due("40", d.request(1, 30, 3, 1, 40), 0);
                Check.refused("41", ARGUMENT, () -> d.request(1, 30, 3, 1, 41));
            });
    }

    private static void cancelRequest(Sentences s) {
        s.promise(6).says("Cancels a request")
            .test("the first, one in the midst and the last", d -> {
                for (int i = 0; i < 5; i++) {
                    d.request(i, 0, 0, 1, 1);
                }
                d.cancelRequest(0);
                d.cancelRequest(2);
                d.cancelRequest(4);
                Check.due("the first", d.requestAt(0), 1);
                Check.due("the last", d.requestAt(1), 3);
                Check.due("requestCount", d.requestCount(), 2);
            })
            .test("those behind it keep all that they ask for", d -> {
                Depots.into(d, 0, 30, 36, 60);
                d.request(1, 60, 0, 9, 9);
                d.request(2, 33, 3, 4, 6);
                d.cancelRequest(0);
                Check.due("fits 0", d.fits(1, 0), true);
                Check.due("fits 1", d.fits(1, 1), true);
                Check.due("fits 2", d.fits(1, 2), false);
                d.grant(1);
                for (int day = 3; day <= 9; day++) {
                    Check.due("booked on day " + day, d.isBooked(0, day), day >= 4 && day <= 6);
                }
                d.passDays(4);
                Check.due("the hammer", Depots.hammer(d, 0), "0p30w0@2<6");
            })
            .test("one that has come", d -> {
                d.request(0, 0, 0, 1, 1);
                d.passDays(9);
                Check.due("left", d.cancelRequest(0), 0);
            })
            .test("it costs nothing", d -> {
                d.request(0, 0, 0, 1, 9);
                d.cancelRequest(0);
                Check.due("coins", d.coins(), 20);
            });
        s.says("Returns the number of requests that still wait")
            .test("from 7 to 0", d -> {
                for (int i = 0; i < 8; i++) {
                    d.request(i, 0, 0, 1, 1);
                }
                for (int i = 7; i >= 0; i--) {
                    Check.due("left", d.cancelRequest(7 - i), i);
                }
            });
        s.says("Throws `NoSuchElementException`")
            .test("none waits", d -> Check.refused("id 0", ELEMENT, () -> d.cancelRequest(0)))
            .test("ids that do not wait", d -> {
                d.addHammer(0, 0);
                for (int i = 0; i < 4; i++) {
                    d.request(i, 0, 0, 1, 1);
                }
                d.cancelRequest(1);
                d.grant(2);
                for (int id : new int[] {-1, 4, Integer.MIN_VALUE, Integer.MAX_VALUE}) {
                    Check.refused("id " + id, ELEMENT, () -> d.cancelRequest(id));
                }
                Check.refused("cancelled", ELEMENT, () -> d.cancelRequest(1));
                Check.refused("granted", ELEMENT, () -> d.cancelRequest(2));
                Check.due("the last", d.cancelRequest(3), 1);
            });
    }

    private static void grant(Sentences s) {
        s.promise(7).says("Grants a request with its best hammer")
            .test("the best one, not the first one", d -> {
                Depots.into(d, 0, 35, 31, 30);
                Depots.wearOff(d, 2, 99, 0);
                d.request(0, 30, 12, 9, 9);
                Check.due("hammer", d.grant(1), 2);
                Check.due("bookings of 2", d.bookings(2), 1);
                Check.due("bookings of 0", d.bookings(0), 0);
            });
        s.says("The first day of the request must not have come")
            .test("the day before and the day itself", d -> {
                d.addHammer(30, 0);
                d.request(0, 30, 0, 3, 9);
                d.request(1, 30, 0, 10, 10);
                d.passDays(2);
                d.save();
                Check.due("the day before", d.grant(0), 0);
                d.restore();
                d.passDays(1);
                Check.refused("the day itself", STATE, () -> d.grant(0));
                Check.due("it goes on waiting", d.requestAt(0), 0);
                Check.due("another one", d.grant(1), 0);
            });
        s.says("Returns the index of the hammer")
            .test("0 and 11", d -> {
                for (int i = 0; i < 12; i++) {
                    d.addHammer(5 * i, i % 3);
                }
                Check.due("0", Depots.book(d, 0, 0, 1, 1), 0);
                Check.due("11", Depots.book(d, 0, 55, 1, 1), 11);
            });
        s.says("Throws `NoSuchElementException`")
            .test("ids that do not wait", d -> {
                d.addHammer(30, 0);
                Check.refused("none waits", ELEMENT, () -> d.grant(0));
                for (int i = 0; i < 3; i++) {
                    d.request(i, 30, 0, i + 1, i + 1);
                }
                d.cancelRequest(0);
                d.grant(1);
                for (int id : new int[] {-1, 0, 1, 3, Integer.MIN_VALUE, Integer.MAX_VALUE}) {
                    Check.refused("id " + id, ELEMENT, () -> d.grant(id));
                }
            });
        s.says("Throws `IllegalStateException`")
            .test("the first day is the day counter, or less", d -> {
                d.addHammer(30, 0);
                d.request(0, 30, 0, 2, 9);
                d.passDays(2);
                Check.refused("the same", STATE, () -> d.grant(0));
                d.passDays(1);
                Check.refused("less", STATE, () -> d.grant(0));
                d.passDays(30);
                Check.refused("long ago", STATE, () -> d.grant(0));
            });
        s.says("Throws `UnsupportedOperationException`")
            .test("no hammers", d -> {
                d.request(0, 30, 12, 1, 1);
                Check.refused("grant", UNSUPPORTED, () -> d.grant(0));
            })
            .test("none fits, for each cause", d -> {
                Depots.into(d, 0, 30, 0);
                d.request(0, 31, 0, 9, 9);
                Check.refused("pitch", UNSUPPORTED, () -> d.grant(0));
                d.request(0, 30, 0, 9, 9);
                Depots.book(d, 0, 30, 9, 9);
                Check.refused("booked", UNSUPPORTED, () -> d.grant(1));
                d.request(0, 0, 0, 6, 7);
                Depots.lend(d, 0, 6);
                Check.refused("lent", UNSUPPORTED, () -> d.grant(3));
                Check.due("they go on waiting", d.requestCount(), 3);
            })
            .test("none fits, since the only one is worn out", d -> {
                d.addHammer(30, 0);
                d.request(0, 30, 0, 9, 9);
                Depots.wearOff(d, 0, 99, 0);
                Depots.wearOff(d, 0, 1, 0);
                Check.refused("worn out", UNSUPPORTED, () -> d.grant(0));
            });
    }

    private static void grantMost(Sentences s) {
        s.promise(8).says("Makes the most grants")
            .test("as many as mostGrants says", d -> {
                Depots.into(d, 0, 30, 32, 34);
                d.request(1, 31, 1, 5, 5);
                d.request(2, 32, 2, 5, 6);
                d.request(3, 30, 0, 5, 7);
                d.request(4, 30, 0, 5, 5);
                Check.due("mostGrants", d.mostGrants(), 3);
                Check.due("grantMost", d.grantMost(), 3);
                Check.due("coins", d.coins(), 20 + 1 + 2 + 3);
                for (int h = 0; h < 3; h++) {
                    Check.due("bookings of " + h, d.bookings(h), 1);
                }
            });
        s.says("All requests whose first day is not greater than the day counter")
            .test("less, the same and greater", d -> {
                d.addHammer(30, 0);
                for (int first = 1; first <= 5; first++) {
                    d.request(first, 60, 0, first, 9);
                }
                d.passDays(3);
                Check.due("grantMost", d.grantMost(), 0);
                Check.due("requestCount", d.requestCount(), 2);
                Check.due("day 4", d.requestAt(0), 3);
                Check.due("day 5", d.requestAt(1), 4);
            })
            .test("they are cancelled before, not granted", d -> {
                Depots.into(d, 0, 30);
                d.request(1, 30, 0, 1, 2);
                d.request(2, 30, 0, 2, 3);
                d.passDays(1);
                Check.due("grantMost", d.grantMost(), 1);
                Check.due("the booking", d.isBooked(0, 3), true);
                Check.due("requestCount", d.requestCount(), 0);
                Check.due("coins", d.coins(), 22);
            })
            .test("all eight", d -> {
                for (int i = 0; i < 8; i++) {
                    d.request(i, 30, 0, 1, 1);
                }
                d.passDays(1);
                Check.due("grantMost", d.grantMost(), 0);
                Check.due("requestCount", d.requestCount(), 0);
            });
        s.says("Returns the number of requests that are granted")
            .test("no request, no hammer", d -> {
                Check.due("no request", d.grantMost(), 0);
                d.request(0, 30, 0, 1, 1);
                Check.due("no hammer", d.grantMost(), 0);
                Check.due("it goes on waiting", d.requestCount(), 1);
            })
            .test("eight", d -> {
                for (int i = 0; i < 8; i++) {
                    d.addHammer(30, i % 3);
                    d.request(i, 30, 0, 1, 1);
                }
                Check.due("grantMost", d.grantMost(), 8);
                Check.due("requestCount", d.requestCount(), 0);
                Check.due("once more", d.grantMost(), 0);
            });
    }

    private static void giveBack(Sentences s) {
        s.promise(9).says("Takes a lent hammer back and puts it into a rack")
            .test("every rack", d -> {
                Depots.into(d, 0, 30, 31);
                for (int rack = 0; rack < 3; rack++) {
                    Depots.lend(d, 31, 1);
                    d.giveBack(1, 0, rack);
                    Check.due("isLent", d.isLent(1), false);
                    Check.due("rackOf", d.rackOf(1), rack);
                    Check.due("placeOf", d.placeOf(1), rack == 0 ? 1 : 0);
                    Check.due("hammerAt", d.hammerAt(rack, rack == 0 ? 1 : 0), 1);
                }
                Check.refused("no borrower", ELEMENT, () -> d.borrower(1));
            });
        s.says("Returns the wear of the hammer after the call")
            .test("it adds up to 100", d -> {
                d.addHammer(30, 0);
                int[][] wears = {{0, 0}, {5, 0}, {15, 1}, {500, 51}, {489, 99}};
                for (int[] e : wears) {
                    Depots.lend(d, 30, 1);
                    Check.due(e[0] + " strikes", d.giveBack(0, e[0], 0), e[1]);
                }
                Depots.lend(d, 30, 1);
                Check.due("100", d.giveBack(0, 20, 0), 100);
                Check.due("wear", d.wear(0), 100);
            });
    }

    private static HammerDepot withLentHammer() {
        HammerDepot d = new HammerDepot();
        Depots.into(d, 0, 30, 31);
        Depots.lend(d, 31, 3);
        return d;
    }

    private static void giveBackRefused(Sentences s) {
        s.promise(9).says("Throws `IndexOutOfBoundsException`")
            .test("no such hammer", unused -> {
                HammerDepot d = withLentHammer();
                for (int hammer : new int[] {-1, 2, 12, Integer.MIN_VALUE, Integer.MAX_VALUE}) {
                    Check.refused("hammer " + hammer, INDEX, () -> d.giveBack(hammer, 0, 0));
                }
                Check.refused("no hammers", INDEX, () -> unused.giveBack(0, 0, 0));
            })
            .test("no such rack", unused -> {
                HammerDepot d = withLentHammer();
                for (int rack : new int[] {-1, 3, Integer.MIN_VALUE, Integer.MAX_VALUE}) {
                    Check.refused("rack " + rack, INDEX, () -> d.giveBack(1, 0, rack));
                }
                Check.due("still lent", d.isLent(1), true);
            });
        s.says("Throws `IllegalArgumentException` if strikes is not between 0 and 999")
            .test("too few and too many", unused -> {
                HammerDepot d = withLentHammer();
                for (int strikes : new int[] {-1, -9, -10, 1000, 1009, Integer.MIN_VALUE, Integer.MAX_VALUE}) {
                    Check.refused(strikes + " strikes", ARGUMENT, () -> d.giveBack(1, strikes, 0));
                }
                Check.due("still lent", d.isLent(1), true);
            })
            .test("0 and 999", unused -> {
                HammerDepot d = withLentHammer();
                Check.due("0", d.giveBack(1, 0, 0), 0);
                d.undo();
                Check.due("999", d.giveBack(1, 999, 0), 99);
            });
        s.says("Throws `IllegalStateException`")
            .test("not lent", unused -> {
                HammerDepot d = withLentHammer();
                Check.refused("never lent", STATE, () -> d.giveBack(0, 0, 1));
                d.giveBack(1, 0, 0);
                Check.refused("given back", STATE, () -> d.giveBack(1, 0, 1));
                Check.due("place", d.placeOf(1), 1);
            })
            .test("booked, but not lent yet", d -> {
                d.addHammer(30, 0);
                Depots.book(d, 0, 30, 1, 1);
                Check.refused("giveBack", STATE, () -> d.giveBack(0, 0, 1));
            })
            .test("no free place", unused -> {
                HammerDepot d = withLentHammer();
                Depots.into(d, 2, 1, 2, 3, 4, 5, 6);
                Check.refused("full", STATE, () -> d.giveBack(1, 0, 2));
                Check.due("still lent", d.isLent(1), true);
                d.moveHammer(7, 1);
                Check.due("the last free place", d.giveBack(1, 0, 2), 0);
                Check.due("place", d.placeOf(1), 5);
            });
    }

    private static void renewFace(Sentences s) {
        s.promise(10).says("Renews the face of a hammer")
            .test("of this hammer alone", d -> {
                Depots.into(d, 0, 30, 31);
                Depots.wearOff(d, 0, 7, 0);
                Depots.wearOff(d, 1, 8, 0);
                d.renewFace(0);
                Check.due("wear of 0", d.wear(0), 0);
                Check.due("wear of 1", d.wear(1), 8);
            })
            .test("without wear it is a change all the same", d -> {
                d.addHammer(30, 0);
                Check.due("cost", d.renewFace(0), 0);
                Check.due("undo", d.undo(), 1);
            });
        s.says("Returns the cost")
            .test("from 0 to 20", d -> {
                int[][] costs = {{0, 0}, {1, 1}, {5, 1}, {6, 2}, {99, 20}};
                for (int[] e : costs) {
                    HammerDepot other = new HammerDepot();
                    other.addHammer(30, 0);
                    Depots.wearOff(other, 0, e[0], 0);
                    Check.due("wear " + e[0], other.renewFace(0), e[1]);
                }
            });
        s.says("Throws `IndexOutOfBoundsException`")
            .test("no such hammer", d -> {
                Check.refused("no hammers", INDEX, () -> d.renewFace(0));
                Depots.into(d, 0, 30, 31);
                for (int hammer : new int[] {-1, 2, 12, Integer.MIN_VALUE, Integer.MAX_VALUE}) {
                    Check.refused("hammer " + hammer, INDEX, () -> d.renewFace(hammer));
                }
                Check.due("the last hammer", d.renewFace(1), 0);
            });
        s.says("Throws `IllegalStateException` if it is lent")
            .test("lent and given back", unused -> {
                HammerDepot d = withLentHammer();
                Check.refused("lent", STATE, () -> d.renewFace(1));
                d.giveBack(1, 100, 0);
                Check.due("given back", d.renewFace(1), 2);
            });
        s.says("Throws `UnsupportedOperationException`")
            .test("one coin too few, and just enough", d -> {
                Depots.into(d, 0, 30, 31);
                Depots.wearOff(d, 0, 99, 0);
                Depots.wearOff(d, 1, 15, 0);
                Check.due("cost", d.renewFace(0), 20);
                Check.due("coins", d.coins(), 2);
                Check.refused("2 coins for 3", UNSUPPORTED, () -> d.renewFace(1));
                Check.due("wear", d.wear(1), 15);
                Check.due("coins", d.coins(), 2);
                Depots.book(d, 0, 30, 9, 9);
                Check.due("3 coins for 3", d.renewFace(1), 3);
                Check.due("coins", d.coins(), 0);
                Check.due("0 coins for 0", d.renewFace(1), 0);
            });
    }

    private static void passDays(Sentences s) {
        s.promise(11).says("Lets days pass")
            .test("1 and 30", d -> {
                d.passDays(1);
                Check.due("day", d.day(), 1);
                d.passDays(30);
                Check.due("day", d.day(), 31);
            })
            .test("the bookings of every day", d -> {
                Depots.into(d, 0, 30, 31, 32);
                Depots.book(d, 0, 30, 1, 1);
                Depots.book(d, 0, 31, 2, 2);
                Depots.book(d, 0, 32, 3, 3);
                d.passDays(3);
                Check.due("lentTotal", d.lentTotal(), 3);
            });
        s.says("Returns the number of hammers that are lent in these days")
            .test("none, without and with lent ones", d -> {
                Check.due("none", d.passDays(30), 0);
                d.addHammer(30, 0);
                Depots.lend(d, 30, 1);
                Check.due("lent before", d.passDays(1), 0);
            })
            .test("in these days, not in those before, and no broken booking", d -> {
                Depots.into(d, 0, 30, 31, 32);
                Depots.book(d, 0, 30, 1, 1);
                Depots.book(d, 0, 31, 3, 3);
                Depots.book(d, 0, 32, 3, 3);
                Depots.book(d, 0, 30, 3, 3);
                Depots.book(d, 0, 32, 6, 6);
                Check.due("day 1", d.passDays(1), 1);
                Check.due("day 2", d.passDays(1), 0);
                Check.due("days 3 to 5", d.passDays(3), 2);
                Check.due("brokenTotal", d.brokenTotal(), 1);
                d.giveBack(2, 0, 0);
                Check.due("day 6", d.passDays(1), 1);
            })
            .test("the last of the days counts", d -> {
                Depots.into(d, 0, 30, 31);
                Depots.book(d, 0, 30, 30, 30);
                Depots.book(d, 0, 31, 31, 31);
                Check.due("days 1 to 30", d.passDays(30), 1);
                Check.due("day 31", d.passDays(1), 1);
            });
        s.says("Throws `IllegalArgumentException` if days is not between 1 and 30")
            .test("too few and too many", d -> {
                for (int days : new int[] {0, -1, 31, Integer.MIN_VALUE, Integer.MAX_VALUE}) {
                    Check.refused(days + " days", ARGUMENT, () -> d.passDays(days));
                    Check.due("day", d.day(), 0);
                }
            })
            .test("1 and 30 are taken", d -> {
                Check.due("1", d.passDays(1), 0);
                Check.due("30", d.passDays(30), 0);
            });
    }
}
