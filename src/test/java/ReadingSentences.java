import java.util.NoSuchElementException;
import java.util.function.BiFunction;

/** Tests for the sentences of the promises 12 to 28 and 36 to 47: what is read of a depot. */
final class ReadingSentences {
    private static final Class<IndexOutOfBoundsException> INDEX = IndexOutOfBoundsException.class;
    private static final Class<NoSuchElementException> ELEMENT = NoSuchElementException.class;
    private static final Class<ArithmeticException> ARITHMETIC = ArithmeticException.class;

    private ReadingSentences() {
    }

    static void all(Sentences s) {
        hammers(s);
        lent(s);
        placesOfHammers(s);
        hammerAt(s);
        bookings(s);
        requests(s);
        fits(s);
        mostGrants(s);
        byWear(s);
        coins(s);
        totals(s);
        shares(s);
        consistency(s);
        rendering(s);
    }

    /** In an empty depot, in one with two hammers of which one is lent, and in one with twelve. */
    private static void noSuchHammer(BiFunction<HammerDepot, Integer, Object> call) {
        HammerDepot empty = new HammerDepot();
        Check.refused("0 without hammers", INDEX, () -> call.apply(empty, 0));
        HammerDepot d = new HammerDepot();
        Depots.into(d, 0, 30, 31);
        Depots.lend(d, 31, 3);
        for (int hammer : new int[] {-1, 2, 11, 12, Integer.MIN_VALUE, Integer.MAX_VALUE}) {
            Check.refused(hammer + " of two", INDEX, () -> call.apply(d, hammer));
        }
        HammerDepot full = new HammerDepot();
        for (int i = 0; i < 12; i++) {
            full.addHammer(i, i % 3);
        }
        Check.refused("12 of twelve", INDEX, () -> call.apply(full, 12));
        Check.refused("-1 of twelve", INDEX, () -> call.apply(full, -1));
    }

    private static void hammers(Sentences s) {
        s.promise(12).says("Returns the number of hammers")
            .test("from 0 to 12", d -> {
                for (int i = 0; i < 12; i++) {
                    Check.due("before", d.hammerCount(), i);
                    d.addHammer(i, i % 3);
                }
                Check.due("all", d.hammerCount(), 12);
                Check.outcome(() -> d.addHammer(0, 0));
                Check.due("after a refused one", d.hammerCount(), 12);
            })
            .test("lent ones too", d -> {
                Depots.into(d, 0, 30, 31);
                Depots.lend(d, 30, 1);
                Check.due("hammerCount", d.hammerCount(), 2);
            });
        s.promise(13).says("Returns the pitch of a hammer", "Returns the pitch.")
            .test("0 and 60, in a rack and lent", d -> {
                Depots.into(d, 2, 0, 60, 17);
                Depots.lend(d, 60, 1);
                Check.due("0", d.pitch(0), 0);
                Check.due("60", d.pitch(1), 60);
                Check.due("17", d.pitch(2), 17);
            });
        s.says("Throws").test("no such hammer", unused -> noSuchHammer(HammerDepot::pitch));
        s.promise(14).says("Returns the wear of a hammer", "Returns the wear.")
            .test("0, 99 and 100", d -> {
                Depots.into(d, 2, 30, 31, 32);
                Depots.wearOff(d, 1, 99, 0);
                Depots.wearOff(d, 2, 99, 0);
                Depots.book(d, 0, 32, 4, 4);
                Depots.wearOff(d, 2, 5, 0);
                Check.due("0", d.wear(0), 0);
                Check.due("99", d.wear(1), 99);
                Check.due("100", d.wear(2), 100);
                d.passDays(1);
                Check.due("lent", d.wear(2), 100);
            });
        s.says("Throws").test("no such hammer", unused -> noSuchHammer(HammerDepot::wear));
    }

    private static void lent(Sentences s) {
        s.promise(15).says("Returns whether a hammer is lent", "Returns true if it is lent")
            .test("before, in and after the time", d -> {
                Depots.into(d, 0, 30, 31);
                Check.due("new", d.isLent(0), false);
                Depots.book(d, 0, 30, 2, 3);
                d.passDays(1);
                Check.due("booked", d.isLent(0), false);
                d.passDays(1);
                Check.due("lent", d.isLent(0), true);
                Check.due("another one", d.isLent(1), false);
                d.passDays(9);
                Check.due("late", d.isLent(0), true);
                d.giveBack(0, 0, 0);
                Check.due("back", d.isLent(0), false);
            });
        s.says("Throws").test("no such hammer", unused -> noSuchHammer(HammerDepot::isLent));
        s.promise(16).says("Returns the borrower of a hammer", "Returns the borrower.")
            .test("0 and 9", d -> {
                Depots.into(d, 0, 30, 31);
                Depots.book(d, 0, 31, 1, 1);
                Depots.book(d, 9, 30, 1, 1);
                d.passDays(1);
                Check.due("9", d.borrower(0), 9);
                Check.due("0", d.borrower(1), 0);
            })
            .test("the next borrower", d -> {
                d.addHammer(30, 0);
                Depots.book(d, 4, 30, 1, 1);
                Depots.book(d, 3, 30, 2, 2);
                d.passDays(1);
                Check.due("first", d.borrower(0), 4);
                d.giveBack(0, 0, 0);
                d.passDays(1);
                Check.due("next", d.borrower(0), 3);
            });
        s.says("Throws `IndexOutOfBoundsException`").test("no such hammer", unused -> noSuchHammer(HammerDepot::borrower));
        s.says("Throws `NoSuchElementException`").test("not lent", unused -> notLent(HammerDepot::borrower));
        s.promise(17).says("Returns the due day of a hammer", "Returns the due day.")
            .test("the last day of the booking", d -> {
                Depots.into(d, 0, 30, 31);
                Depots.book(d, 1, 30, 1, 1);
                Depots.book(d, 1, 31, 1, 40);
                d.passDays(1);
                Check.due("the same day", d.dueDay(0), 1);
                Check.due("forty days", d.dueDay(1), 40);
                d.passDays(30);
                Check.due("late", d.dueDay(0), 1);
            });
        s.says("Throws `IndexOutOfBoundsException`").test("no such hammer", unused -> noSuchHammer(HammerDepot::dueDay));
        s.says("Throws `NoSuchElementException`").test("not lent", unused -> notLent(HammerDepot::dueDay));
    }

    private static void notLent(BiFunction<HammerDepot, Integer, Object> call) {
        HammerDepot d = new HammerDepot();
        d.addHammer(30, 0);
        Check.refused("new", ELEMENT, () -> call.apply(d, 0));
        Depots.book(d, 3, 30, 1, 1);
        Check.refused("booked", ELEMENT, () -> call.apply(d, 0));
        d.passDays(1);
        d.giveBack(0, 0, 0);
        Check.refused("back", ELEMENT, () -> call.apply(d, 0));
    }

    private static void placesOfHammers(Sentences s) {
        s.promise(18).says("Returns the rack of a hammer", "Returns the index of the rack")
            .test("0 to 2", d -> {
                for (int rack = 0; rack < 3; rack++) {
                    Depots.into(d, rack, 1, 2, 3, 4);
                }
                for (int hammer = 0; hammer < 12; hammer++) {
                    Check.due("hammer " + hammer, d.rackOf(hammer), hammer / 4);
                }
            })
            .test("the first and the last place", d -> {
                Depots.into(d, 1, 1, 2, 3, 4, 5, 6);
                Check.due("first", d.rackOf(0), 1);
                Check.due("last", d.rackOf(5), 1);
            });
        s.says("Throws `IndexOutOfBoundsException`").test("no such hammer", unused -> noSuchHammer(HammerDepot::rackOf));
        s.says("Throws `NoSuchElementException`").test("lent", unused -> isAway(HammerDepot::rackOf));
        s.promise(19).says("Returns the place of a hammer in its rack", "Returns the place.")
            .test("0 to 5 of every rack", d -> {
                for (int i = 0; i < 12; i++) {
                    d.addHammer(0, 2 - i / 6);
                    Check.due("hammer " + i, d.placeOf(i), i % 6);
                }
            })
            .test("after a swap", d -> {
                d.addHammer(0, 0);
                d.swapPlaces(0, 0, 5);
                Check.due("placeOf", d.placeOf(0), 5);
            });
        s.says("Throws `IndexOutOfBoundsException`").test("no such hammer", unused -> noSuchHammer(HammerDepot::placeOf));
        s.says("Throws `NoSuchElementException`").test("lent", unused -> isAway(HammerDepot::placeOf));
    }

    private static void isAway(BiFunction<HammerDepot, Integer, Object> call) {
        HammerDepot d = new HammerDepot();
        Depots.into(d, 0, 30);
        Depots.book(d, 1, 30, 1, 2);
        Check.due("booked", call.apply(d, 0), 0);
        d.passDays(1);
        Check.refused("lent", ELEMENT, () -> call.apply(d, 0));
        d.passDays(30);
        Check.refused("late", ELEMENT, () -> call.apply(d, 0));
        d.giveBack(0, 0, 0);
        Check.due("back", call.apply(d, 0), 0);
    }

    private static void hammerAt(Sentences s) {
        s.promise(20).says("Returns the hammer in a place of a rack", "Returns the index of the hammer")
            .test("the corners", d -> {
                Depots.into(d, 0, 1, 2, 3, 4, 5, 6);
                Depots.into(d, 2, 1, 2, 3, 4, 5, 6);
                Check.due("rack 0, place 0", d.hammerAt(0, 0), 0);
                Check.due("rack 0, place 5", d.hammerAt(0, 5), 5);
                Check.due("rack 2, place 0", d.hammerAt(2, 0), 6);
                Check.due("rack 2, place 5", d.hammerAt(2, 5), 11);
            });
        s.says("Throws `IndexOutOfBoundsException`")
            .test("no such rack", d -> {
                Depots.into(d, 0, 1, 2, 3, 4, 5, 6);
                for (int rack : new int[] {-1, 3, Integer.MIN_VALUE, Integer.MAX_VALUE}) {
                    Check.refused("rack " + rack, INDEX, () -> d.hammerAt(rack, 0));
                    Check.refused("rack " + rack, INDEX, () -> d.hammerAt(rack, 5));
                }
            })
            .test("no such place", d -> {
                Depots.into(d, 1, 1, 2, 3, 4, 5, 6);
                for (int place : new int[] {-1, 6, Integer.MIN_VALUE, Integer.MAX_VALUE}) {
                    for (int rack = 0; rack < 3; rack++) {
                        int r = rack;
                        Check.refused("place " + place + " of rack " + r, INDEX, () -> d.hammerAt(r, place));
                    }
                }
            });
        s.says("Throws `NoSuchElementException` if the place is free")
            .test("never used, moved away, lent", d -> {
                Depots.into(d, 1, 30, 31);
                Check.refused("never used", ELEMENT, () -> d.hammerAt(1, 2));
                Check.refused("the last place", ELEMENT, () -> d.hammerAt(2, 5));
                Depots.lend(d, 30, 1);
                Check.refused("lent", ELEMENT, () -> d.hammerAt(1, 0));
                d.moveHammer(1, 0);
                Check.refused("moved away", ELEMENT, () -> d.hammerAt(1, 1));
            });
    }

    private static void bookings(Sentences s) {
        s.promise(21).says("Returns the number of bookings of a hammer", "Returns the number of bookings that exist")
            .test("none, one and forty", d -> {
                Depots.into(d, 0, 30, 31);
                Check.due("none", d.bookings(0), 0);
                for (int day = 1; day <= 40; day++) {
                    Depots.book(d, 0, 30, day, day);
                    Check.due("bookings", d.bookings(0), day);
                }
                Check.due("another hammer", d.bookings(1), 0);
            })
            .test("those that are lent or broken do not exist", d -> {
                d.addHammer(30, 0);
                for (int day = 1; day <= 5; day++) {
                    Depots.book(d, 0, 30, day, day);
                }
                d.passDays(1);
                Check.due("one is lent", d.bookings(0), 4);
                d.passDays(3);
                Check.due("three are broken", d.bookings(0), 1);
                d.passDays(1);
                Check.due("all", d.bookings(0), 0);
            })
            .test("a request is no booking", d -> {
                d.addHammer(30, 0);
                d.request(0, 30, 0, 1, 1);
                Check.due("bookings", d.bookings(0), 0);
            });
        s.says("Throws").test("no such hammer", unused -> noSuchHammer(HammerDepot::bookings));
        s.promise(22).says("Returns whether a hammer is booked on a day", "Returns true if a booking of it that exists has this day")
            .test("the days of two bookings", d -> {
                Depots.into(d, 0, 30, 31);
                Depots.book(d, 0, 30, 2, 3);
                Depots.book(d, 0, 30, 6, 6);
                Depots.book(d, 0, 31, 4, 4);
                for (int day = 0; day <= 8; day++) {
                    Check.due("day " + day, d.isBooked(0, day), day == 2 || day == 3 || day == 6);
                    Check.due("another hammer on day " + day, d.isBooked(1, day), day == 4);
                }
            })
            .test("the days of one that is lent", d -> {
                d.addHammer(30, 0);
                Depots.book(d, 0, 30, 1, 3);
                d.passDays(1);
                for (int day = 0; day <= 4; day++) {
                    Check.due("day " + day, d.isBooked(0, day), false);
                }
            });
        s.says("`day`: the day, any number")
            .test("far away", d -> {
                d.addHammer(30, 0);
                Depots.book(d, 0, 30, 1, 40);
                for (int day : new int[] {0, -1, 41, 1000, Integer.MIN_VALUE, Integer.MIN_VALUE + 1, Integer.MAX_VALUE}) {
                    Check.due("day " + day, d.isBooked(0, day), false);
                }
                Check.due("the first day", d.isBooked(0, 1), true);
                Check.due("the last day", d.isBooked(0, 40), true);
            })
            .test("without bookings", d -> {
                d.addHammer(30, 0);
                for (int day : new int[] {0, 1, -1, Integer.MIN_VALUE, Integer.MAX_VALUE}) {
                    Check.due("day " + day, d.isBooked(0, day), false);
                }
            });
        s.says("Throws").test("no such hammer", unused -> noSuchHammer((d, hammer) -> d.isBooked(hammer, 1)));
    }

    private static void requests(Sentences s) {
        s.promise(23).says("Returns the number of requests that wait", "Returns the number of requests.")
            .test("from 0 to 8", d -> {
                for (int i = 0; i < 8; i++) {
                    Check.due("before", d.requestCount(), i);
                    d.request(i, 0, 0, 1, 1);
                }
                Check.due("all", d.requestCount(), 8);
                Check.outcome(() -> d.request(0, 0, 0, 1, 1));
                Check.due("after a refused one", d.requestCount(), 8);
            })
            .test("cancelled, granted and those that have come", d -> {
                d.addHammer(30, 0);
                for (int i = 0; i < 4; i++) {
                    d.request(i, 30, 0, i + 1, i + 1);
                }
                d.cancelRequest(3);
                Check.due("cancelled", d.requestCount(), 3);
                d.grant(2);
                Check.due("granted", d.requestCount(), 2);
                d.passDays(1);
                Check.due("one has come", d.requestCount(), 2);
                d.grantMost();
                Check.due("the most grants", d.requestCount(), 0);
            });
        s.promise(24).says("Returns a waiting request by its position", "Returns the id of the request")
            .test("in the order of ids", d -> {
                d.addHammer(30, 0);
                for (int i = 0; i < 8; i++) {
                    d.request(i, 30, 0, 9 - i, 9 - i);
                }
                d.cancelRequest(0);
                d.grant(4);
                d.cancelRequest(7);
                d.request(0, 0, 0, 1, 1);
                int[] ids = {1, 2, 3, 5, 6, 8};
                for (int position = 0; position < 6; position++) {
                    Check.due("position " + position, d.requestAt(position), ids[position]);
                }
            });
        s.says("`position`: the position, counted from 0")
            .test("the first and the last of eight", d -> {
                for (int i = 0; i < 8; i++) {
                    d.request(i, 0, 0, 1, 1);
                }
                Check.due("0", d.requestAt(0), 0);
                Check.due("7", d.requestAt(7), 7);
                Check.refused("8", ELEMENT, () -> d.requestAt(8));
            });
        s.says("Throws")
            .test("no such position", d -> {
                Check.refused("none waits", ELEMENT, () -> d.requestAt(0));
                d.request(0, 0, 0, 1, 1);
                d.request(0, 0, 0, 1, 1);
                for (int position : new int[] {-1, 2, 8, Integer.MIN_VALUE, Integer.MAX_VALUE}) {
                    Check.refused("position " + position, ELEMENT, () -> d.requestAt(position));
                }
                d.cancelRequest(0);
                Check.refused("one is gone", ELEMENT, () -> d.requestAt(1));
            });
    }

    /** Ids that do not wait, in a depot where 0 was cancelled, 1 was granted and 2 waits. */
    private static void noSuchRequest(BiFunction<HammerDepot, Integer, Object> call) {
        HammerDepot d = new HammerDepot();
        Depots.into(d, 0, 30, 31);
        Check.refused("none waits", ELEMENT, () -> call.apply(d, 0));
        for (int i = 0; i < 3; i++) {
            d.request(i, 30, 1, i + 1, i + 1);
        }
        d.cancelRequest(0);
        d.grant(1);
        for (int id : new int[] {-1, 0, 1, 3, Integer.MIN_VALUE, Integer.MAX_VALUE}) {
            Check.refused("id " + id, ELEMENT, () -> call.apply(d, id));
        }
    }

    private static void fits(Sentences s) {
        s.promise(25).says("Returns whether a hammer fits a waiting request", "Returns true if it fits")
            .test("by the pitch", d -> {
                Depots.into(d, 0, 30, 31, 32);
                d.request(0, 30, 1, 1, 1);
                Check.due("the same", d.fits(0, 0), true);
                Check.due("by the tolerance", d.fits(0, 1), true);
                Check.due("by more", d.fits(0, 2), false);
            })
            .test("a request that has come", d -> {
                d.addHammer(30, 0);
                d.request(0, 30, 0, 1, 1);
                d.passDays(1);
                Check.due("on its day", d.fits(0, 0), true);
                d.passDays(9);
                Check.due("after its day", d.fits(0, 0), true);
            });
        s.says("Throws `NoSuchElementException`").test("no such request", unused -> noSuchRequest((d, id) -> d.fits(id, 0)));
        s.says("Throws `IndexOutOfBoundsException`")
            .test("no such hammer", d -> {
                d.request(0, 30, 12, 1, 1);
                Check.refused("no hammers", INDEX, () -> d.fits(0, 0));
                Depots.into(d, 0, 30, 31);
                for (int hammer : new int[] {-1, 2, 12, Integer.MIN_VALUE, Integer.MAX_VALUE}) {
                    Check.refused("hammer " + hammer, INDEX, () -> d.fits(0, hammer));
                }
                Check.due("the last hammer", d.fits(0, 1), true);
            });
        s.promise(26).says("Returns the best hammer for a waiting request", "Returns the index of the hammer")
            .test("0 and 11", d -> {
                for (int i = 0; i < 12; i++) {
                    d.addHammer(5 * i, i % 3);
                }
                d.request(0, 0, 12, 1, 1);
                d.request(0, 60, 12, 1, 1);
                Check.due("0", d.bestHammer(0), 0);
                Check.due("11", d.bestHammer(1), 11);
            })
            .test("it is not granted", d -> {
                d.addHammer(30, 0);
                d.request(0, 30, 0, 1, 1);
                d.bestHammer(0);
                Check.due("bookings", d.bookings(0), 0);
                Check.due("requestCount", d.requestCount(), 1);
            })
            .test("a request that has come", d -> {
                d.addHammer(30, 0);
                d.request(0, 30, 0, 1, 1);
                d.passDays(1);
                Check.due("bestHammer", d.bestHammer(0), 0);
            });
        s.says("Throws")
            .test("no such request", unused -> noSuchRequest(HammerDepot::bestHammer))
            .test("no hammer fits", d -> {
                d.request(0, 30, 1, 1, 1);
                Check.refused("no hammers", ELEMENT, () -> d.bestHammer(0));
                Depots.into(d, 0, 28, 32);
                Check.refused("two that do not fit", ELEMENT, () -> d.bestHammer(0));
                d.addHammer(31, 0);
                Check.due("one that fits", d.bestHammer(0), 2);
                d.grant(0);
                d.request(0, 30, 1, 1, 1);
                Check.refused("booked", ELEMENT, () -> d.bestHammer(1));
            });
    }

    private static void mostGrants(Sentences s) {
        s.promise(27).says("Returns the most grants, found by improving", "Returns the number of requests")
            .test("no request, no hammer", d -> {
                Check.due("nothing", d.mostGrants(), 0);
                d.request(0, 30, 0, 1, 1);
                Check.due("no hammer", d.mostGrants(), 0);
            })
            .test("all waiting requests take part, also those that have come", d -> {
                Depots.into(d, 0, 30, 30);
                d.request(0, 30, 0, 1, 1);
                d.request(0, 30, 0, 5, 5);
                d.passDays(1);
                Check.due("mostGrants", d.mostGrants(), 2);
                Check.due("nothing is granted", d.requestCount(), 2);
                Check.due("nothing is booked", d.bookings(0), 0);
            })
            .test("improved by changing the first choices", d -> {
                Depots.into(d, 0, 30, 32, 34);
                d.request(0, 31, 1, 1, 1);
                d.request(0, 33, 1, 1, 1);
                d.request(0, 30, 0, 1, 1);
                Check.due("mostGrants", d.mostGrants(), 3);
            });
        s.promise(28).says("Returns the same number as mostGrants", "Returns the number of requests")
            .test("no request, no hammer", d -> {
                Check.due("nothing", d.mostGrantsBySets(), 0);
                d.request(0, 30, 0, 1, 1);
                Check.due("no hammer", d.mostGrantsBySets(), 0);
            })
            .test("the smallest for no request, for some and for all", d -> {
                Depots.into(d, 0, 30, 40, 50);
                d.request(0, 40, 0, 1, 1);
                d.request(0, 50, 0, 1, 1);
                Check.due("no request in the set", d.mostGrantsBySets(), 2);
                d.request(0, 30, 0, 1, 1);
                d.request(0, 30, 0, 2, 2);
                d.request(0, 30, 0, 3, 3);
                Check.due("three of five", d.mostGrantsBySets(), 3);
                d.cancelRequest(0);
                d.cancelRequest(1);
                Check.due("all three", d.mostGrantsBySets(), 1);
            })
            .test("the smallest for some alone", d -> {
                Depots.into(d, 0, 30, 40, 41, 42);
                d.request(0, 41, 1, 1, 1);
                for (int i = 0; i < 3; i++) {
                    d.request(0, 30, 0, 1, 1);
                }
                Check.due("all but the first", d.mostGrantsBySets(), 2);
            })
            .test("all waiting requests take part, also those that have come", d -> {
                Depots.into(d, 0, 30, 30);
                d.request(0, 30, 0, 1, 1);
                d.request(0, 30, 0, 5, 5);
                d.passDays(1);
                Check.due("mostGrantsBySets", d.mostGrantsBySets(), 2);
            })
            .test("eight requests for seven hammers", d -> {
                for (int i = 0; i < 8; i++) {
                    d.addHammer(i < 7 ? 30 : 60, i % 3);
                    d.request(i, 30, 0, 1, 1);
                }
                Check.due("mostGrantsBySets", d.mostGrantsBySets(), 7);
            });
    }

    private static void byWear(Sentences s) {
        s.promise(36).says("Returns the hammer at a rank", "Returns the index of the hammer")
            .test("by wear, then by pitch, then by index", d -> {
                Depots.into(d, 0, 40, 30, 30, 20);
                Check.due("no wear, pitch", d.hammerByWear(0), 3);
                Check.due("no wear, index", d.hammerByWear(1), 1);
                Check.due("no wear, index", d.hammerByWear(2), 2);
                Check.due("no wear, pitch", d.hammerByWear(3), 0);
                Depots.wearOff(d, 0, 1, 0);
                Check.due("wear goes before pitch", d.hammerByWear(0), 0);
                Depots.wearOff(d, 3, 2, 0);
                Check.due("more wear", d.hammerByWear(0), 3);
                Check.due("less wear", d.hammerByWear(1), 0);
                Check.due("the last", d.hammerByWear(3), 2);
            })
            .test("the same wear, by pitch", d -> {
                Depots.into(d, 0, 60, 0);
                Depots.wearOff(d, 0, 50, 0);
                Depots.wearOff(d, 1, 50, 0);
                Check.due("0", d.hammerByWear(0), 1);
                Check.due("1", d.hammerByWear(1), 0);
            })
            .test("lent hammers too", d -> {
                Depots.into(d, 0, 30, 40);
                Depots.lend(d, 30, 1);
                Check.due("0", d.hammerByWear(0), 0);
                Check.due("1", d.hammerByWear(1), 1);
            });
        s.says("`rank`: the rank, counted from 0")
            .test("the first and the last of twelve", d -> {
                for (int i = 0; i < 12; i++) {
                    d.addHammer(60 - i, i % 3);
                }
                Check.due("0", d.hammerByWear(0), 11);
                Check.due("11", d.hammerByWear(11), 0);
                Check.refused("12", ELEMENT, () -> d.hammerByWear(12));
            });
        s.says("Throws")
            .test("no such rank", d -> {
                Check.refused("no hammers", ELEMENT, () -> d.hammerByWear(0));
                Depots.into(d, 0, 30, 31);
                for (int rank : new int[] {-1, 2, 12, Integer.MIN_VALUE, Integer.MAX_VALUE}) {
                    Check.refused("rank " + rank, ELEMENT, () -> d.hammerByWear(rank));
                }
            });
    }

    /** Bookings of 1, 3 and 2 days, a hammer that is two days late, and a face for 9 coins: 20 + 6 + 4 - 9. */
    private static HammerDepot afterSomeDays() {
        HammerDepot d = new HammerDepot();
        Depots.into(d, 0, 30, 31);
        Depots.book(d, 1, 30, 1, 1);
        Depots.book(d, 1, 31, 1, 3);
        Depots.book(d, 1, 30, 2, 3);
        d.passDays(3);
        d.giveBack(0, 449, 0);
        d.renewFace(0);
        return d;
    }

    private static void coins(Sentences s) {
        s.promise(37).says("Returns the coins of the depot", "Returns the number of coins")
            .test("at first", d -> Check.due("coins", d.coins(), 20))
            .test("after some days", unused -> Check.due("coins", afterSomeDays().coins(), 21))
            .test("none", d -> {
                Depots.into(d, 0, 30, 31);
                Depots.wearOff(d, 0, 99, 0);
                Depots.wearOff(d, 1, 10, 0);
                d.renewFace(0);
                d.renewFace(1);
                Check.due("coins", d.coins(), 0);
            });
        s.promise(38).says("Returns the same number as coins", "Returns the number of coins")
            .test("at first", d -> Check.due("coinsByAccounts", d.coinsByAccounts(), 20))
            .test("bookings alone", d -> {
                d.addHammer(30, 0);
                Depots.book(d, 0, 30, 2, 4);
                Check.due("coinsByAccounts", d.coinsByAccounts(), 23);
            })
            .test("after some days", unused -> {
                HammerDepot d = afterSomeDays();
                Check.due("coinsByAccounts", d.coinsByAccounts(), 21);
                d.undo();
                Check.due("without the face", d.coinsByAccounts(), 30);
                d.undo();
                Check.due("without the lateness", d.coinsByAccounts(), 26);
            });
    }

    private static void totals(Sentences s) {
        s.promise(39).says("Returns how many bookings were broken so far", "Returns the number of bookings")
            .test("none, and each broken one", d -> {
                d.addHammer(30, 0);
                for (int day = 1; day <= 4; day++) {
                    Depots.book(d, 0, 30, day, day);
                }
                for (int day = 1; day <= 6; day++) {
                    Check.due("before day " + day, d.brokenTotal(), Math.max(0, Math.min(3, day - 2)));
                    d.passDays(1);
                }
                d.giveBack(0, 0, 0);
                Check.due("after giving back", d.brokenTotal(), 3);
            });
        s.promise(40).says("Returns how often hammers were lent so far", "Returns the number of times")
            .test("each time, also of the same hammer", d -> {
                d.addHammer(30, 0);
                for (int times = 0; times < 3; times++) {
                    Check.due("before", d.lentTotal(), times);
                    Depots.book(d, 0, 30, d.day() + 2, d.day() + 2);
                    Check.due("booked", d.lentTotal(), times);
                    d.passDays(2);
                    Check.due("lent", d.lentTotal(), times + 1);
                    d.giveBack(0, 0, 0);
                }
            })
            .test("a broken booking does not count", d -> {
                d.addHammer(30, 0);
                Depots.book(d, 0, 30, 1, 1);
                Depots.book(d, 0, 30, 2, 2);
                d.passDays(2);
                Check.due("lentTotal", d.lentTotal(), 1);
            });
        s.promise(41).says("Returns the present day", "Returns the day counter")
            .test("0 and on", d -> {
                Check.due("at first", d.day(), 0);
                d.passDays(1);
                Check.due("1", d.day(), 1);
                d.passDays(30);
                Check.due("31", d.day(), 31);
                Check.outcome(() -> d.passDays(31));
                Check.due("after a refused one", d.day(), 31);
            });
    }

    private static void shares(Sentences s) {
        s.promise(42).says("Returns the mean wear of the hammers", "Returns the mean wear.")
            .test("no wear", d -> {
                d.addHammer(30, 0);
                Check.due("meanWear", d.meanWear(), 0.0);
            })
            .test("not rounded", d -> {
                Depots.into(d, 0, 30, 31, 32);
                Depots.wearOff(d, 0, 1, 0);
                Check.due("a third", d.meanWear(), 1.0 / 3.0);
                Depots.wearOff(d, 1, 99, 0);
                Check.due("a hundred thirds", d.meanWear(), 100.0 / 3.0);
                Depots.lend(d, 31, 1);
                Check.due("a lent hammer counts", d.meanWear(), 100.0 / 3.0);
            })
            .test("100", d -> {
                d.addHammer(30, 0);
                Depots.wearOff(d, 0, 99, 0);
                Depots.wearOff(d, 0, 99, 0);
                Check.due("meanWear", d.meanWear(), 100.0);
            });
        s.says("Throws").test("no hammers", d -> Check.refused("meanWear", ARITHMETIC, d::meanWear));
        s.promise(43).says("Returns the share of hammers that are lent", "Returns the share.")
            .test("none and all", d -> {
                d.addHammer(30, 0);
                Check.due("none", d.lentShare(), 0.0f);
                Depots.lend(d, 30, 1);
                Check.due("all", d.lentShare(), 1.0f);
            })
            .test("not rounded, and a float", d -> {
                Depots.into(d, 0, 30, 31, 32);
                Depots.lend(d, 31, 9);
                Check.due("one of three", d.lentShare(), 1.0f / 3.0f);
                Depots.lend(d, 32, 9);
                Check.due("two of three", d.lentShare(), 2.0f / 3.0f);
                d.giveBack(1, 0, 0);
                Check.due("one is back", d.lentShare(), 1.0f / 3.0f);
            });
        s.says("Throws").test("no hammers", d -> Check.refused("lentShare", ARITHMETIC, d::lentShare));
    }

    private static void consistency(Sentences s) {
        s.promise(44).says("Checks the state: both ways to find the most grants agree", "Returns true if all of this holds")
            .test("without hammers, and with too few for some sizes", d -> {
                Check.due("none", d.isConsistent(), true);
                for (int i = 0; i < 4; i++) {
                    d.addHammer(12 * i, i % 3);
                    Check.due("hammers " + (i + 1), d.isConsistent(), true);
                }
            })
            .test("all lent", d -> {
                Depots.into(d, 0, 30, 31);
                Depots.book(d, 0, 30, 1, 1);
                Depots.book(d, 0, 31, 1, 1);
                d.passDays(1);
                Check.due("isConsistent", d.isConsistent(), true);
            })
            .test("full of everything", d -> {
                for (int i = 0; i < 12; i++) {
                    d.addHammer(30 + 7 * i % 13, i / 6);
                }
                d.swapPlaces(0, 0, 5);
                for (int i = 0; i < 8; i++) {
                    d.request(i, 30 + i, 2, 1 + i % 2, 3);
                }
                Check.due("eight wait", d.isConsistent(), true);
                d.grantMost();
                d.passDays(2);
                Check.due("some are lent", d.isConsistent(), true);
            })
            .test("no coins", d -> {
                Depots.into(d, 0, 30, 31);
                Depots.wearOff(d, 0, 99, 0);
                Depots.wearOff(d, 1, 10, 0);
                d.renewFace(0);
                d.renewFace(1);
                Check.due("isConsistent", d.isConsistent(), true);
            })
            .test("it changes nothing", unused -> {
                HammerDepot d = Depots.busy();
                Check.due("isConsistent", d.isConsistent(), true);
                Check.due("everything", Depots.everything(d), Depots.everything(Depots.busy()));
                Check.due("undo", d.undo(), 7);
            });
    }

    private static void rendering(Sentences s) {
        s.promise(45).says("Replaces the output text by a description of a rack")
            .test("empty and full", d -> {
                Check.due("empty", Depots.rack(d, 0), "-,-,-,-,-,-");
                Depots.into(d, 2, 1, 2, 3, 4, 5, 6);
                Depots.into(d, 0, 1, 2, 3, 4, 5, 6);
                Check.due("indices of one digit", Depots.rack(d, 2), "0,1,2,3,4,5");
                Check.due("indices of two digits", Depots.rack(d, 0), "6,7,8,9,10,11");
            })
            .test("as in the document", d -> {
                Depots.into(d, 2, 0, 1, 2, 3, 4, 5);
                Depots.into(d, 1, 6, 7, 8, 9, 10, 11);
                d.moveHammer(4, 0);
                d.moveHammer(0, 0);
                d.moveHammer(11, 0);
                d.swapPlaces(0, 2, 3);
                d.swapPlaces(0, 1, 2);
                Check.due("the rack", Depots.rack(d, 0), "4,-,0,11,-,-");
            });
        s.says("Returns the length of the output text")
            .test("the shortest and the longest", d -> {
                Check.due("empty", d.renderRack(1), 11);
                Depots.into(d, 0, 1, 2, 3, 4, 5, 6);
                Depots.into(d, 1, 1, 2, 3, 4, 5, 6);
                Check.due("full", d.renderRack(1), 13);
                Check.refused("behind the end", INDEX, () -> d.outputAt(13));
                Check.due("the last character", d.outputAt(12), '1');
            });
        s.says("Throws")
            .test("no such rack", d -> {
                d.addHammer(30, 0);
                d.renderHammer(0);
                for (int rack : new int[] {-1, 3, Integer.MIN_VALUE, Integer.MAX_VALUE}) {
                    Check.refused("rack " + rack, INDEX, () -> d.renderRack(rack));
                }
                Check.due("the text of before", Check.output(d, 5), "0p30w");
            });
        s.promise(46).says("Replaces the output text by a description of a hammer")
            .test("in a rack, lent, and given back", d -> {
                Depots.into(d, 0, 0, 60);
                Check.due("in a rack", Depots.hammer(d, 0), "0p0w0");
                Check.due("in a rack", Depots.hammer(d, 1), "1p60w0");
                Depots.book(d, 0, 0, 1, 1);
                d.passDays(1);
                Check.due("lent", Depots.hammer(d, 0), "0p0w0@0<1");
                d.giveBack(0, 123, 0);
                Check.due("given back", Depots.hammer(d, 0), "0p0w12");
            })
            .test("as in the document", d -> {
                Depots.into(d, 0, 1, 2, 3, 24);
                Depots.wearOff(d, 3, 7, 0);
                Depots.book(d, 2, 24, 2, 12);
                d.passDays(1);
                Check.due("the hammer", Depots.hammer(d, 3), "3p24w7@2<12");
            })
            .test("the longest numbers", d -> {
                for (int i = 0; i < 12; i++) {
                    d.addHammer(i == 11 ? 60 : 10, i % 3);
                }
                Depots.wearOff(d, 11, 99, 0);
                Depots.book(d, 9, 60, 40, 41);
                Depots.wearOff(d, 11, 99, 0);
                Check.due("worn out", Depots.hammer(d, 11), "11p60w100");
                d.passDays(30);
                d.passDays(8);
                Check.due("lent", Depots.hammer(d, 11), "11p60w100@9<41");
            });
        s.says("Returns the length of the output text")
            .test("short and long", d -> {
                Depots.into(d, 0, 0, 60);
                Check.due("short", d.renderHammer(0), 5);
                Depots.lend(d, 60, 9);
                Check.due("long", d.renderHammer(1), 10);
                Check.refused("behind the end", INDEX, () -> d.outputAt(10));
                Check.due("short again", d.renderHammer(0), 5);
                Check.refused("behind the shorter end", INDEX, () -> d.outputAt(5));
            });
        s.says("Throws")
            .test("no such hammer", unused -> noSuchHammer(HammerDepot::renderHammer))
            .test("the text of before stays", d -> {
                d.renderRack(0);
                Check.refused("hammer 0", INDEX, () -> d.renderHammer(0));
                Check.due("the text", Check.output(d, 11), "-,-,-,-,-,-");
            });
        s.promise(47).says("Returns a character of the output text, which is empty initially", "Returns the character")
            .test("empty initially", d -> {
                for (int index : new int[] {0, -1, 1}) {
                    Check.refused("index " + index, INDEX, () -> d.outputAt(index));
                }
            })
            .test("the first and the last character", d -> {
                d.addHammer(42, 0);
                d.renderHammer(0);
                Check.due("first", d.outputAt(0), '0');
                Check.due("last", d.outputAt(5), '0');
                Check.due("between", d.outputAt(2), '4');
            });
        s.says("Throws")
            .test("no such index", d -> {
                int length = d.renderRack(0);
                for (int index : new int[] {-1, length, length + 1, Integer.MIN_VALUE, Integer.MAX_VALUE}) {
                    Check.refused("index " + index, INDEX, () -> d.outputAt(index));
                }
            });
    }
}
