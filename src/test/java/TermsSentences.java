import java.util.NoSuchElementException;

/** Tests for the sentences under 'What it is' and for the terms from hammers to faces. */
final class TermsSentences {
    private static final Class<IndexOutOfBoundsException> INDEX = IndexOutOfBoundsException.class;
    private static final Class<IllegalArgumentException> ARGUMENT = IllegalArgumentException.class;
    private static final Class<IllegalStateException> STATE = IllegalStateException.class;
    private static final Class<NoSuchElementException> ELEMENT = NoSuchElementException.class;

    private TermsSentences() {
    }

    static void all(Sentences s) {
        calls(s);
        hammers(s);
        places(s);
        requests(s);
        fittingPitch(s);
        fittingDays(s);
        granted(s);
        best(s);
        together(s);
        mostInOrder(s);
        days(s);
        broken(s);
        strikes(s);
        faces(s);
    }

    private static void calls(Sentences s) {
        s.in("What it is").leaves("A depot that lends");
        s.says("An object is used for at most 512 calls")
            .test("the last of 512 calls", d -> {
                for (int i = 0; i < 511; i++) {
                    d.passDays(30);
                }
                Check.due("day", d.day(), 511 * 30);
            })
            .test("all the bookings that 512 calls can make", TermsSentences::manyBookings)
            .test("all the ids that 512 calls can make", d -> {
                for (int i = 0; i < 256; i++) {
                    Check.due("id", d.request(0, 0, 0, 1, 1), i);
                    d.cancelRequest(i);
                }
            });
        s.in("Terms").leaves("Hammers have pitches").leaves("The class finds").leaves("It is not thread-safe");
        s.says("All integer divisions round down")
            .test("strikes, wear of 1 at 19", d -> {
                d.addHammer(10, 0);
                Depots.lend(d, 10, 1);
                Check.due("wear", d.giveBack(0, 19, 0), 1);
            });
    }

    /** 432 bookings at once, in 507 calls and five that look at them. */
    private static void manyBookings(HammerDepot d) {
        for (int i = 0; i < 12; i++) {
            d.addHammer(0, i % 3);
        }
        for (int round = 0; round < 67; round++) {
            int day = round % 40 + 1;
            for (int i = 0; i < (round < 40 ? 8 : 4); i++) {
                d.request(i, 0, 0, day, day);
            }
            d.grantMost();
        }
        Check.due("bookings of hammer 0", d.bookings(0), 40);
        Check.due("bookings of hammer 11", d.bookings(11), 27);
        Check.due("the last booking of hammer 11", d.isBooked(11, 27), true);
        Check.due("coins", d.coins(), 20 + 40 * 8 + 27 * 4);
        Check.due("lent on the first day", d.passDays(1), 12);
    }

    private static void hammers(Sentences s) {
        s.in("Hammers and racks").says("There are 3 racks")
            .test("every place of every rack", d -> {
                for (int rack = 0; rack < 3; rack++) {
                    Depots.into(d, rack, 10);
                    for (int place = 1; place < 6; place++) {
                        d.swapPlaces(rack, place - 1, place);
                        Check.due("place " + place, d.hammerAt(rack, place), rack);
                    }
                }
            })
            .test("no rack before the first and behind the last", d -> {
                Check.refused("rack -1", INDEX, () -> d.addHammer(0, -1));
                Check.refused("rack 3", INDEX, () -> d.addHammer(0, 3));
            })
            .test("no place before the first and behind the last", d -> {
                Depots.into(d, 1, 1, 2, 3, 4, 5, 6);
                Check.refused("place 6 of rack 0", INDEX, () -> d.hammerAt(0, 6));
                Check.refused("place -1 of rack 2", INDEX, () -> d.hammerAt(2, -1));
                Check.refused("the seventh hammer", STATE, () -> d.addHammer(7, 1));
            });
        s.says("At most 12 hammers have the indices")
            .test("twelve and no more", d -> {
                for (int i = 0; i < 12; i++) {
                    Check.due("index", d.addHammer(5 * i, i % 3), i);
                }
                Check.refused("the thirteenth", STATE, () -> d.addHammer(0, 0));
                for (int i = 0; i < 12; i++) {
                    Check.due("pitch of " + i, d.pitch(i), 5 * i);
                }
            })
            .test("a lent hammer is not removed", d -> {
                Depots.into(d, 0, 10, 20);
                Depots.lend(d, 10, 1);
                Check.due("hammerCount", d.hammerCount(), 2);
                Check.due("pitch", d.pitch(0), 10);
                Check.due("the next index", d.addHammer(30, 0), 2);
            })
            .test("the thirteenth while one is lent", d -> {
                Depots.into(d, 0, 1, 2, 3, 4, 5, 6);
                Depots.into(d, 1, 7, 8, 9, 10, 11, 12);
                Depots.lend(d, 1, 1);
                Check.refused("the thirteenth", STATE, () -> d.addHammer(0, 0));
            });
        s.says("A hammer has a pitch from 0 to 60 and a wear from 0 to 100")
            .test("the lowest and the highest pitch", d -> {
                Depots.into(d, 0, 0, 60);
                Check.due("lowest", d.pitch(0), 0);
                Check.due("highest", d.pitch(1), 60);
                Check.refused("below", ARGUMENT, () -> d.addHammer(-1, 0));
                Check.refused("above", ARGUMENT, () -> d.addHammer(61, 0));
            })
            .test("no wear at first", d -> {
                Depots.into(d, 0, 10, 20);
                Depots.wearOff(d, 0, 50, 0);
                d.addHammer(30, 0);
                Check.due("wear of 1", d.wear(1), 0);
                Check.due("wear of 2", d.wear(2), 0);
            })
            .test("worn out with 100, not with 99", d -> {
                d.addHammer(10, 0);
                Depots.wearOff(d, 0, 99, 0);
                d.request(0, 10, 0, 9, 9);
                Check.due("99", d.fits(1, 0), true);
                Check.due("wear", Depots.wearOff(d, 0, 1, 0), 100);
                Check.due("100", d.fits(1, 0), false);
            });
        s.says("It lies in a place of a rack, or it is lent")
            .test("the first and the last borrower", d -> {
                Depots.into(d, 0, 10, 20);
                Depots.book(d, 0, 10, 1, 3);
                Depots.book(d, 9, 20, 1, 4);
                d.passDays(1);
                Check.due("borrower 0", d.borrower(0), 0);
                Check.due("borrower 9", d.borrower(1), 9);
                Check.due("due day", d.dueDay(1), 4);
            })
            .test("a lent hammer lies in no rack", d -> {
                Depots.into(d, 2, 10, 20);
                Depots.lend(d, 10, 1);
                Check.due("the rack", Depots.rack(d, 2), "-,1,-,-,-,-");
                Check.refused("rackOf", ELEMENT, () -> d.rackOf(0));
            });
    }

    private static void places(Sentences s) {
        s.in("Hammers and racks").says("A place holds at most one hammer")
            .test("six hammers, six places", d -> {
                Depots.into(d, 1, 9, 9, 9, 9, 9, 9);
                Check.due("the rack", Depots.rack(d, 1), "0,1,2,3,4,5");
            })
            .test("a full rack takes no hammer back", d -> {
                Depots.into(d, 1, 9, 8, 8, 8, 8, 8);
                Depots.lend(d, 9, 1);
                d.addHammer(8, 1);
                Check.refused("giveBack", STATE, () -> d.giveBack(0, 0, 1));
                Check.due("the rack", Depots.rack(d, 1), "6,1,2,3,4,5");
            });
        s.says("When a hammer is put into a rack, it gets the free place with the lowest number")
            .test("added into a gap", d -> {
                Depots.into(d, 0, 1, 2, 3);
                d.moveHammer(1, 1);
                d.addHammer(4, 0);
                Check.due("the rack", Depots.rack(d, 0), "0,3,2,-,-,-");
            })
            .test("added into place 0 and into place 5", d -> {
                Depots.into(d, 0, 1, 2, 3, 4, 5);
                d.swapPlaces(0, 0, 5);
                Depots.into(d, 0, 6);
                Check.due("the rack", Depots.rack(d, 0), "5,1,2,3,4,0");
                Depots.into(d, 1, 1, 2, 3, 4, 5, 6);
                Check.due("the last place", d.placeOf(11), 5);
            })
            .test("moved into a gap", d -> {
                Depots.into(d, 0, 1, 2, 3);
                Depots.into(d, 1, 4);
                d.swapPlaces(0, 1, 4);
                Check.due("place", d.moveHammer(3, 0), 1);
                Check.due("the rack", Depots.rack(d, 0), "0,3,2,-,1,-");
            })
            .test("given back into a gap", d -> {
                Depots.into(d, 0, 1, 2, 3);
                Depots.into(d, 1, 4);
                Depots.lend(d, 4, 1);
                d.swapPlaces(0, 0, 5);
                d.giveBack(3, 0, 0);
                Check.due("the rack", Depots.rack(d, 0), "3,1,2,-,-,0");
            })
            .test("given back not into the place of before", d -> {
                Depots.into(d, 0, 1, 2, 3);
                Depots.lend(d, 3, 1);
                d.moveHammer(0, 1);
                d.giveBack(2, 0, 0);
                Check.due("the rack", Depots.rack(d, 0), "2,1,-,-,-,-");
            });
    }

    private static void requests(Sentences s) {
        s.in("Requests and bookings").says("A request is made by a borrower for a pitch with a tolerance from 0 to 12")
            .test("the least and the greatest tolerance", d -> {
                Depots.into(d, 0, 30, 42, 43);
                Check.due("0", d.request(0, 30, 0, 1, 1), 0);
                Check.due("12", d.request(0, 30, 12, 1, 1), 1);
                Check.due("0 is nothing but the pitch", d.fits(0, 1), false);
                Check.due("12 reaches 42", d.fits(1, 1), true);
                Check.due("12 does not reach 43", d.fits(1, 2), false);
                Check.refused("-1", ARGUMENT, () -> d.request(0, 30, -1, 1, 1));
                Check.refused("13", ARGUMENT, () -> d.request(0, 30, 13, 1, 1));
            })
            .test("for all days", d -> {
                Depots.into(d, 0, 30);
                Depots.book(d, 0, 30, 2, 4);
                for (int day = 0; day <= 6; day++) {
                    Check.due("day " + day, d.isBooked(0, day), day >= 2 && day <= 4);
                }
            });
        s.says("At most 8 requests wait")
            .test("eight and no more", d -> {
                for (int i = 0; i < 8; i++) {
                    Check.due("id", d.request(i, i, 0, 1, 1), i);
                }
                Check.refused("the ninth", STATE, () -> d.request(0, 0, 0, 1, 1));
                Check.due("requestCount", d.requestCount(), 8);
                d.cancelRequest(3);
                Check.due("one for the one that is gone", d.request(0, 0, 0, 1, 1), 8);
                Check.refused("and no more", STATE, () -> d.request(0, 0, 0, 1, 1));
            })
            .test("requests that have come wait too", d -> {
                for (int i = 0; i < 8; i++) {
                    d.request(i, i, 0, 1, 1);
                }
                d.passDays(9);
                Check.refused("the ninth", STATE, () -> d.request(0, 0, 0, 10, 10));
            })
            .test("a granted request makes room", d -> {
                d.addHammer(7, 0);
                for (int i = 0; i < 8; i++) {
                    d.request(i, i, 0, 1, 1);
                }
                d.grant(7);
                Check.due("id", d.request(0, 0, 0, 1, 1), 8);
            });
        s.says("Every request gets an id")
            .test("the first id", d -> Check.due("id", d.request(0, 0, 0, 1, 1), 0))
            .test("refused requests use no id", d -> {
                Check.refused("tolerance 13", ARGUMENT, () -> d.request(0, 0, 13, 1, 1));
                for (int i = 0; i < 8; i++) {
                    Check.due("id", d.request(0, 0, 0, 1, 1), i);
                }
                Check.refused("the ninth", STATE, () -> d.request(0, 0, 0, 1, 1));
                d.cancelRequest(0);
                Check.due("id", d.request(0, 0, 0, 1, 1), 8);
            })
            .test("the id of a request that is gone is not used again", d -> {
                d.addHammer(0, 0);
                d.request(0, 0, 0, 1, 1);
                d.cancelRequest(0);
                Check.due("after cancelling", d.request(0, 0, 0, 1, 1), 1);
                d.grant(1);
                Check.due("after granting", d.request(0, 0, 0, 3, 3), 2);
                d.grantMost();
                Check.due("after the most grants", d.request(0, 0, 0, 5, 5), 3);
            });
        s.says("A booking reserves a hammer for a borrower from a first day to a last day")
            .test("the days around it", d -> {
                Depots.into(d, 0, 30, 31);
                Depots.book(d, 6, 30, 3, 5);
                Check.due("the day before", d.isBooked(0, 2), false);
                Check.due("the first day", d.isBooked(0, 3), true);
                Check.due("the last day", d.isBooked(0, 5), true);
                Check.due("the day behind", d.isBooked(0, 6), false);
                Check.due("another hammer", d.isBooked(1, 4), false);
                d.passDays(3);
                Check.due("the borrower", d.borrower(0), 6);
            });
    }

    private static void fittingPitch(Sentences s) {
        s.in("Requests and bookings").says("A hammer fits a request if its pitch differs")
            .test("the pitch differs by the tolerance, below and above", d -> {
                Depots.into(d, 0, 24, 25, 35, 36);
                d.request(0, 30, 5, 1, 1);
                Check.due("6 below", d.fits(0, 0), false);
                Check.due("5 below", d.fits(0, 1), true);
                Check.due("5 above", d.fits(0, 2), true);
                Check.due("6 above", d.fits(0, 3), false);
            })
            .test("the tolerance 0", d -> {
                Depots.into(d, 0, 29, 30, 31);
                d.request(0, 30, 0, 1, 1);
                Check.due("below", d.fits(0, 0), false);
                Check.due("the same", d.fits(0, 1), true);
                Check.due("above", d.fits(0, 2), false);
            })
            .test("the pitches 0 and 60 with the tolerance 12", d -> {
                Depots.into(d, 0, 0, 12, 13, 47, 48, 60);
                d.request(0, 0, 12, 1, 1);
                d.request(0, 60, 12, 1, 1);
                boolean[] low = {true, true, false, false, false, false};
                for (int h = 0; h < 6; h++) {
                    Check.due("0 and " + h, d.fits(0, h), low[h]);
                    Check.due("60 and " + h, d.fits(1, h), low[5 - h]);
                }
            })
            .test("a worn out hammer, until its face is renewed", d -> {
                d.addHammer(30, 0);
                Depots.wearOff(d, 0, 60, 0);
                Depots.wearOff(d, 0, 39, 0);
                d.request(0, 30, 0, 9, 9);
                Check.due("99", d.fits(2, 0), true);
                Depots.wearOff(d, 0, 1, 0);
                Check.due("100", d.fits(2, 0), false);
                d.renewFace(0);
                Check.due("0", d.fits(2, 0), true);
            });
    }

    private static void fittingDays(Sentences s) {
        s.in("Requests and bookings").says("A hammer fits a request if its pitch differs")
            .test("a day in common with a booking", d -> {
                Depots.into(d, 0, 30, 30);
                d.request(0, 30, 0, 5, 8);
                d.grant(0);
                int[][] days = {
                    {1, 4, 1}, {4, 4, 1}, {1, 5, 0}, {5, 5, 0}, {6, 7, 0}, {5, 8, 0}, {1, 40, 0}, {8, 8, 0}, {8, 12, 0}, {9, 9, 1}, {9, 40, 1}
                };
                for (int[] e : days) {
                    int id = d.request(1, 30, 0, e[0], e[1]);
                    Check.due(e[0] + " to " + e[1], d.fits(id, 0), e[2] == 1);
                    Check.due("another hammer", d.fits(id, 1), true);
                    d.cancelRequest(id);
                }
            })
            .test("two bookings, and the days between them", d -> {
                d.addHammer(30, 0);
                Depots.book(d, 0, 30, 8, 9);
                Depots.book(d, 0, 30, 3, 4);
                int[][] days = {{1, 2, 1}, {2, 3, 0}, {4, 5, 0}, {5, 7, 1}, {5, 8, 0}, {9, 10, 0}, {10, 10, 1}};
                for (int[] e : days) {
                    int id = d.request(1, 30, 0, e[0], e[1]);
                    Check.due(e[0] + " to " + e[1], d.fits(id, 0), e[2] == 1);
                    d.cancelRequest(id);
                }
            })
            .test("a lent hammer with the due day before, on and behind the first day", d -> {
                d.addHammer(30, 0);
                Depots.lend(d, 30, 5);
                Check.due("due day", d.dueDay(0), 5);
                for (int first = 2; first <= 8; first++) {
                    int id = d.request(1, 30, 0, first, 9);
                    Check.due("first day " + first, d.fits(id, 0), first >= 6);
                    d.cancelRequest(id);
                }
            })
            .test("a lent hammer that is late", d -> {
                d.addHammer(30, 0);
                Depots.lend(d, 30, 1);
                d.passDays(5);
                d.request(1, 30, 0, 7, 7);
                Check.due("fits", d.fits(1, 0), true);
            })
            .test("the due day of a hammer that came back", d -> {
                d.addHammer(30, 0);
                Depots.lend(d, 30, 9);
                d.request(1, 30, 0, 5, 5);
                Check.due("lent", d.fits(1, 0), false);
                d.giveBack(0, 0, 0);
                Check.due("back", d.fits(1, 0), true);
            })
            .test("a lent hammer with a booking", d -> {
                d.addHammer(30, 0);
                Depots.book(d, 0, 30, 6, 6);
                Depots.lend(d, 30, 2);
                d.request(1, 30, 0, 5, 6);
                d.request(1, 30, 0, 3, 5);
                Check.due("booked", d.fits(2, 0), false);
                Check.due("free between", d.fits(3, 0), true);
            });
    }

    private static void granted(Sentences s) {
        s.in("Requests and bookings").says("When a request is granted with a hammer")
            .test("one day, one coin", d -> {
                d.addHammer(30, 0);
                Depots.book(d, 0, 30, 4, 4);
                Check.due("coins", d.coins(), 21);
                Check.due("bookings", d.bookings(0), 1);
            })
            .test("forty days, forty coins", d -> {
                d.addHammer(30, 0);
                Depots.book(d, 0, 30, 1, 40);
                Check.due("coins", d.coins(), 60);
            })
            .test("it does not wait any more, the others do", d -> {
                d.addHammer(30, 0);
                for (int i = 0; i < 3; i++) {
                    d.request(i, 30, 0, 5, 6);
                }
                d.grant(1);
                Check.due("requestCount", d.requestCount(), 2);
                Check.due("first", d.requestAt(0), 0);
                Check.due("second", d.requestAt(1), 2);
                Check.refused("fits", ELEMENT, () -> d.fits(1, 0));
                Check.refused("grant", ELEMENT, () -> d.grant(1));
            })
            .test("its borrower and its days", d -> {
                d.addHammer(30, 0);
                d.request(1, 30, 0, 1, 9);
                d.request(9, 30, 0, 2, 3);
                d.grant(1);
                d.passDays(2);
                Check.due("the hammer", Depots.hammer(d, 0), "0p30w0@9<3");
            })
            .test("a late hammer is booked like another", d -> {
                d.addHammer(30, 0);
                Depots.lend(d, 30, 1);
                Check.due("grant", Depots.book(d, 2, 30, 3, 4), 0);
                Check.due("coins", d.coins(), 23);
                Check.due("still lent", d.borrower(0), 5);
            });
    }

    private static void best(Sentences s) {
        s.in("Requests and bookings").says("The best hammer for a request is the one that fits")
            .test("the least difference goes before the least wear", d -> {
                Depots.into(d, 0, 29, 32);
                Depots.wearOff(d, 0, 99, 0);
                d.request(0, 30, 12, 9, 9);
                Check.due("bestHammer", d.bestHammer(1), 0);
            })
            .test("a difference of 1 goes before a wear of 99 and an index", d -> {
                Depots.into(d, 0, 42, 41);
                Depots.wearOff(d, 1, 99, 0);
                d.request(0, 30, 12, 9, 9);
                Check.due("bestHammer", d.bestHammer(1), 1);
            })
            .test("of two with the same difference, below and above, the least wear", d -> {
                Depots.into(d, 0, 28, 32);
                d.request(0, 30, 2, 9, 9);
                Check.due("the lowest index", d.bestHammer(0), 0);
                Depots.wearOff(d, 0, 1, 0);
                Check.due("the least wear", d.bestHammer(0), 1);
                Depots.wearOff(d, 1, 1, 0);
                Check.due("the same wear, the lowest index", d.bestHammer(0), 0);
            })
            .test("of two with the same difference and wear, above and below, the lowest index", d -> {
                Depots.into(d, 0, 32, 28);
                d.request(0, 30, 2, 9, 9);
                Check.due("bestHammer", d.bestHammer(0), 0);
            })
            .test("the nearest one that does not fit", d -> {
                Depots.into(d, 0, 30, 33, 27);
                d.request(0, 30, 3, 1, 2);
                d.request(0, 30, 3, 2, 3);
                Check.due("grant", d.grant(0), 0);
                Check.due("bestHammer", d.bestHammer(1), 1);
            })
            .test("the last of twelve", d -> {
                for (int i = 0; i < 12; i++) {
                    d.addHammer(i < 11 ? 40 : 39, i % 3);
                }
                d.request(0, 30, 12, 9, 9);
                Check.due("bestHammer", d.bestHammer(0), 11);
            });
    }

    private static void bothMost(HammerDepot d, int want) {
        Check.due("mostGrants", d.mostGrants(), want);
        Check.due("mostGrantsBySets", d.mostGrantsBySets(), want);
    }

    private static void together(Sentences s) {
        s.in("Grants together").says("Requests can be granted together")
            .test("no hammer is given to two, not even on different days", d -> {
                d.addHammer(30, 0);
                d.request(0, 30, 0, 1, 1);
                d.request(0, 30, 0, 5, 5);
                bothMost(d, 1);
                Check.due("grantMost", d.grantMost(), 1);
                Check.due("bookings", d.bookings(0), 1);
                bothMost(d, 1);
                Check.due("grantMost again", d.grantMost(), 1);
                Check.due("bookings", d.bookings(0), 2);
            })
            .test("a hammer that fits none", d -> {
                Depots.into(d, 0, 30, 60);
                d.request(0, 30, 0, 1, 1);
                d.request(0, 30, 0, 1, 1);
                bothMost(d, 1);
            });
        s.says("The most grants are the greatest number")
            .test("no request, no hammer", d -> {
                bothMost(d, 0);
                d.request(0, 30, 0, 1, 1);
                bothMost(d, 0);
                d.cancelRequest(0);
                d.addHammer(30, 0);
                bothMost(d, 0);
            })
            .test("eight requests, one hammer", d -> {
                d.addHammer(30, 0);
                for (int i = 0; i < 8; i++) {
                    d.request(i, 30, 0, 1, 1);
                }
                bothMost(d, 1);
            })
            .test("one request, twelve hammers", d -> {
                for (int i = 0; i < 12; i++) {
                    d.addHammer(30, i % 3);
                }
                d.request(0, 30, 0, 1, 1);
                bothMost(d, 1);
            })
            .test("eight requests, twelve hammers", d -> {
                for (int i = 0; i < 12; i++) {
                    d.addHammer(30, i % 3);
                }
                for (int i = 0; i < 8; i++) {
                    d.request(i, 30, 0, 1, 1);
                }
                bothMost(d, 8);
            })
            .test("the last request moves all the hammers on", TermsSentences::longChain);
    }

    /** Every request but the last fits two hammers that are neighbours, and the last one only the first hammer. */
    private static void longChain(HammerDepot d) {
        for (int i = 0; i < 8; i++) {
            d.addHammer(2 * i, i % 3);
        }
        for (int i = 0; i < 7; i++) {
            d.request(i, 2 * i + 1, 1, 1, 1);
        }
        d.request(7, 0, 0, 1, 1);
        bothMost(d, 8);
        Check.due("grantMost", d.grantMost(), 8);
        d.passDays(1);
        Check.due("the last request", d.borrower(0), 7);
        for (int h = 1; h < 8; h++) {
            Check.due("hammer " + h, d.borrower(h), h - 1);
        }
    }

    private static void mostInOrder(Sentences s) {
        s.in("Grants together").says("When the most grants are made, the waiting requests are visited")
            .test("the first hammer, though it is not the best", d -> {
                Depots.into(d, 0, 35, 30);
                d.request(0, 30, 5, 1, 1);
                d.grantMost();
                Check.due("hammer 0", d.bookings(0), 1);
                Check.due("hammer 1", d.bookings(1), 0);
            })
            .test("not the first hammer if it costs a grant", d -> {
                Depots.into(d, 0, 30, 35);
                d.request(0, 30, 5, 1, 1);
                d.request(1, 30, 0, 1, 1);
                Check.due("grantMost", d.grantMost(), 2);
                d.passDays(1);
                Check.due("hammer 0", d.borrower(0), 1);
                Check.due("hammer 1", d.borrower(1), 0);
            })
            .test("not the first hammer if two others need it", d -> {
                Depots.into(d, 0, 30, 32, 28);
                d.request(0, 29, 1, 1, 1);
                d.request(1, 31, 1, 1, 1);
                d.request(2, 31, 1, 1, 1);
                Check.due("grantMost", d.grantMost(), 3);
                d.passDays(1);
                Check.due("hammer 0", d.borrower(0), 1);
                Check.due("hammer 1", d.borrower(1), 2);
                Check.due("hammer 2", d.borrower(2), 0);
            })
            .test("the requests in the order of their ids", d -> {
                d.addHammer(30, 0);
                d.request(1, 30, 0, 9, 9);
                d.request(2, 30, 0, 1, 1);
                d.request(3, 30, 0, 2, 3);
                Check.due("grantMost", d.grantMost(), 1);
                Check.due("the one that is granted", d.isBooked(0, 9), true);
                Check.due("the first that waits", d.requestAt(0), 1);
                Check.due("the second that waits", d.requestAt(1), 2);
            })
            .test("without such a hammer it goes on waiting", d -> {
                Depots.into(d, 0, 30, 42);
                d.request(1, 30, 0, 1, 1);
                d.request(2, 36, 6, 1, 1);
                d.request(3, 30, 0, 1, 1);
                d.request(4, 60, 0, 1, 1);
                d.request(5, 42, 0, 1, 1);
                Check.due("grantMost", d.grantMost(), 2);
                d.passDays(1);
                Check.due("hammer 0", d.borrower(0), 1);
                Check.due("hammer 1", d.borrower(1), 2);
                for (int i = 0; i < 3; i++) {
                    Check.due("waiting", d.requestAt(i), 2 + i);
                }
            })
            .test("a request that fits none does not wait for the others", d -> {
                Depots.into(d, 0, 30, 31);
                d.request(1, 60, 0, 1, 1);
                d.request(2, 31, 1, 1, 1);
                Check.due("grantMost", d.grantMost(), 1);
                Check.due("hammer 0", d.bookings(0), 1);
                Check.due("waiting", d.requestAt(0), 0);
            })
            .test("each booking has the borrower and the days of its request", d -> {
                Depots.into(d, 0, 30, 31, 32);
                d.request(4, 32, 0, 3, 4);
                d.request(8, 60, 0, 1, 1);
                d.request(5, 31, 0, 2, 6);
                d.request(6, 30, 0, 1, 9);
                Check.due("grantMost", d.grantMost(), 3);
                Check.due("coins", d.coins(), 20 + 2 + 5 + 9);
                d.passDays(3);
                Check.due("hammer 0", Depots.hammer(d, 0), "0p30w0@6<9");
                Check.due("hammer 1", Depots.hammer(d, 1), "1p31w0@5<6");
                Check.due("hammer 2", Depots.hammer(d, 2), "2p32w0@4<4");
            });
    }

    private static void days(Sentences s) {
        s.in("Days").says("The day counter starts at 0")
            .test("a new depot", d -> {
                Check.due("day", d.day(), 0);
                Check.refused("day 0 has come", ARGUMENT, () -> d.request(0, 0, 0, 0, 1));
                Check.due("day 1 has not", d.request(0, 0, 0, 1, 1), 0);
            });
        s.says("When a day passes, the day counter increases by 1")
            .test("the day before the first day, and the first day", d -> {
                d.addHammer(30, 0);
                Depots.book(d, 3, 30, 2, 2);
                Check.due("the day before", d.passDays(1), 0);
                Check.due("lies in its rack", d.isLent(0), false);
                Check.due("the first day", d.passDays(1), 1);
                Check.due("lent", Depots.hammer(d, 0), "0p30w0@3<2");
                Check.due("the rack", Depots.rack(d, 0), "-,-,-,-,-,-");
            })
            .test("a first day among many that pass", d -> {
                Depots.into(d, 0, 30, 31, 32, 33);
                Depots.book(d, 1, 30, 1, 2);
                Depots.book(d, 2, 31, 5, 5);
                Depots.book(d, 3, 32, 30, 40);
                Depots.book(d, 4, 33, 31, 31);
                Check.due("lent", d.passDays(30), 3);
                Check.due("day", d.day(), 30);
                Check.due("the first of the days", d.dueDay(0), 2);
                Check.due("the last of the days", d.dueDay(2), 40);
                Check.due("the day behind", d.isLent(3), false);
            })
            .test("bookings that were made in another order than they begin", d -> {
                d.addHammer(30, 0);
                Depots.book(d, 1, 30, 4, 5);
                Depots.book(d, 2, 30, 1, 1);
                Check.due("lent", d.passDays(2), 1);
                Check.due("the earlier one", d.borrower(0), 2);
                d.giveBack(0, 0, 0);
                Check.due("lent", d.passDays(2), 1);
                Check.due("the later one", d.borrower(0), 1);
            })
            .test("all twelve hammers on one day", d -> {
                for (int i = 0; i < 12; i++) {
                    d.addHammer(i, i % 3);
                    Depots.book(d, i % 10, i, 1, 1);
                }
                Check.due("lent", d.passDays(1), 12);
            });
    }

    private static void broken(Sentences s) {
        s.in("Days").says("When a day passes, the day counter increases by 1")
            .test("broken on the day behind the due day", d -> {
                d.addHammer(30, 0);
                Depots.book(d, 1, 30, 1, 3);
                Depots.book(d, 2, 30, 4, 4);
                d.passDays(3);
                Check.due("not broken yet", d.brokenTotal(), 0);
                Check.due("lent", d.passDays(1), 0);
                Check.due("brokenTotal", d.brokenTotal(), 1);
                Check.due("the borrower of before", Depots.hammer(d, 0), "0p30w0@1<3");
            })
            .test("not broken if it comes back on the day before", d -> {
                d.addHammer(30, 0);
                Depots.book(d, 1, 30, 1, 3);
                Depots.book(d, 2, 30, 4, 4);
                d.passDays(3);
                d.giveBack(0, 0, 2);
                Check.due("lent", d.passDays(1), 1);
                Check.due("brokenTotal", d.brokenTotal(), 0);
                Check.due("the borrower", d.borrower(0), 2);
            })
            .test("the coins of a broken booking are not paid back", d -> {
                d.addHammer(30, 0);
                Depots.book(d, 1, 30, 1, 1);
                Depots.book(d, 2, 30, 2, 9);
                d.passDays(2);
                Check.due("coins", d.coins(), 29);
                Check.due("coinsByAccounts", d.coinsByAccounts(), 29);
            })
            .test("every booking of a hammer that does not come back", d -> {
                d.addHammer(30, 0);
                for (int day = 1; day <= 9; day++) {
                    Depots.book(d, day, 30, day, day);
                }
                Check.due("lent", d.passDays(30), 1);
                Check.due("brokenTotal", d.brokenTotal(), 8);
                Check.due("lentTotal", d.lentTotal(), 1);
            });
        s.says("In both cases the booking does not exist any more")
            .test("lent", d -> {
                d.addHammer(30, 0);
                Depots.book(d, 1, 30, 1, 5);
                d.passDays(1);
                Check.due("bookings", d.bookings(0), 0);
                Check.due("the first day", d.isBooked(0, 1), false);
                Check.due("a later day", d.isBooked(0, 5), false);
            })
            .test("broken", d -> {
                d.addHammer(30, 0);
                Depots.book(d, 1, 30, 1, 1);
                Depots.book(d, 2, 30, 2, 5);
                d.passDays(2);
                Check.due("bookings", d.bookings(0), 0);
                Check.due("the first day", d.isBooked(0, 2), false);
                Check.due("a later day", d.isBooked(0, 5), false);
                d.giveBack(0, 0, 0);
                Check.due("nothing begins later", d.passDays(9), 0);
            })
            .test("the bookings around it exist", d -> {
                Depots.into(d, 0, 30, 31);
                Depots.book(d, 1, 30, 7, 7);
                Depots.book(d, 1, 30, 1, 1);
                Depots.book(d, 1, 31, 8, 8);
                d.passDays(1);
                Check.due("hammer 0", d.bookings(0), 1);
                Check.due("day 7", d.isBooked(0, 7), true);
                Check.due("day 8", d.isBooked(1, 8), true);
            });
        s.says("A booking stays if its hammer is worn out later")
            .test("a booking of a hammer that is worn out", d -> {
                d.addHammer(30, 0);
                Depots.book(d, 7, 30, 9, 9);
                Depots.wearOff(d, 0, 99, 0);
                Depots.book(d, 7, 30, 4, 4);
                Check.due("wear", Depots.wearOff(d, 0, 99, 0), 100);
                Check.due("bookings", d.bookings(0), 2);
                Check.due("lent though worn out", d.passDays(2), 1);
                Check.due("the borrower", Depots.hammer(d, 0), "0p30w100@7<4");
            });
    }

    private static void strikes(Sentences s) {
        s.in("Strikes and faces").says("When a hammer comes back with strikes")
            .test("the strikes divided by 10", d -> {
                int[][] wears = {{0, 0}, {9, 0}, {10, 1}, {19, 1}, {20, 2}, {990, 99}, {999, 99}};
                for (int[] e : wears) {
                    HammerDepot other = new HammerDepot();
                    other.addHammer(30, 0);
                    Depots.lend(other, 30, 1);
                    Check.due(e[0] + " strikes", other.giveBack(0, e[0], 0), e[1]);
                    Check.due("wear", other.wear(0), e[1]);
                }
            })
            .test("not above 100", d -> {
                int[][] wears = {{9, 99}, {10, 100}, {19, 100}, {20, 100}, {999, 100}};
                for (int[] e : wears) {
                    HammerDepot other = new HammerDepot();
                    other.addHammer(30, 0);
                    Depots.wearOff(other, 0, 99, 0);
                    Depots.lend(other, 30, 1);
                    Check.due("99 and " + e[0] + " strikes", other.giveBack(0, e[0], 0), e[1]);
                    Check.due("wear", other.wear(0), e[1]);
                }
            })
            .test("100 and more strikes", d -> {
                d.addHammer(30, 0);
                Depots.book(d, 0, 30, 3, 3);
                Depots.wearOff(d, 0, 99, 0);
                Depots.wearOff(d, 0, 99, 0);
                d.passDays(1);
                Check.due("lent though worn out", d.isLent(0), true);
                Check.due("wear", d.giveBack(0, 999, 0), 100);
            })
            .test("before, on and behind the due day", d -> {
                int[][] coins = {{1, 0}, {2, 0}, {3, 0}, {4, 2}, {5, 4}, {30, 54}};
                for (int[] e : coins) {
                    HammerDepot other = new HammerDepot();
                    other.addHammer(30, 0);
                    Depots.book(other, 0, 30, 1, 3);
                    other.passDays(e[0]);
                    other.giveBack(0, 0, 0);
                    Check.due("coins on day " + e[0], other.coins(), 23 + e[1]);
                    Check.due("accounts on day " + e[0], other.coinsByAccounts(), 23 + e[1]);
                }
            })
            .test("strikes and lateness of each hammer by itself", d -> {
                Depots.into(d, 0, 30, 31);
                Depots.book(d, 1, 30, 1, 1);
                Depots.book(d, 1, 31, 1, 4);
                d.passDays(3);
                d.giveBack(1, 50, 0);
                Check.due("not late", d.coins(), 25);
                d.giveBack(0, 70, 0);
                Check.due("late", d.coins(), 29);
                Check.due("wear of 0", d.wear(0), 7);
                Check.due("wear of 1", d.wear(1), 5);
            });
    }

    private static void faces(Sentences s) {
        s.in("Strikes and faces").says("A face is renewed for the wear divided by 5, rounded up")
            .test("rounded up", d -> {
                int[][] costs = {{0, 0}, {1, 1}, {4, 1}, {5, 1}, {6, 2}, {9, 2}, {10, 2}, {11, 3}, {95, 19}, {96, 20}, {99, 20}};
                for (int[] e : costs) {
                    HammerDepot other = new HammerDepot();
                    other.addHammer(30, 0);
                    Depots.wearOff(other, 0, e[0], 0);
                    Check.due("wear " + e[0], other.renewFace(0), e[1]);
                    Check.due("coins", other.coins(), 21 - e[1]);
                    Check.due("wear then", other.wear(0), 0);
                }
            })
            .test("a worn out hammer", d -> {
                d.addHammer(30, 0);
                Depots.wearOff(d, 0, 99, 0);
                Depots.wearOff(d, 0, 1, 0);
                Check.due("cost", d.renewFace(0), 20);
                Check.due("coins", d.coins(), 2);
                Check.due("wear", d.wear(0), 0);
            })
            .test("the other hammers keep their wear", d -> {
                Depots.into(d, 0, 30, 31, 32);
                for (int h = 0; h < 3; h++) {
                    Depots.wearOff(d, h, 10 + h, 0);
                }
                d.renewFace(1);
                Check.due("wear of 0", d.wear(0), 10);
                Check.due("wear of 1", d.wear(1), 0);
                Check.due("wear of 2", d.wear(2), 12);
            });
        s.says("The depot has 20 coins at first")
            .test("a new depot", d -> {
                Check.due("coins", d.coins(), 20);
                Check.due("coinsByAccounts", d.coinsByAccounts(), 20);
            });
    }
}
