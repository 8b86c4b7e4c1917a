import java.util.NoSuchElementException;
import java.util.function.Consumer;

/** Tests for the sentences about changes and of the promises 52 to 54: undo, the snapshot and calls that are refused. */
final class UndoSentences {
    private static final Class<IndexOutOfBoundsException> INDEX = IndexOutOfBoundsException.class;
    private static final Class<IllegalArgumentException> ARGUMENT = IllegalArgumentException.class;
    private static final Class<IllegalStateException> STATE = IllegalStateException.class;
    private static final Class<NoSuchElementException> ELEMENT = NoSuchElementException.class;
    private static final Class<UnsupportedOperationException> UNSUPPORTED = UnsupportedOperationException.class;

    private UndoSentences() {
    }

    interface Start {
        HammerDepot depot();
    }

    interface Act {
        Object on(HammerDepot d);
    }

    static void all(Sentences s) {
        changes(s);
        noChanges(s);
        latestEight(s);
        everythingCovered(s);
        leftOutOfUndo(s);
        leftOutOfTheSnapshot(s);
        refusedChanges(s);
        refusedOnFullDepots(s);
        refusedReading(s);
        refusedScripts(s);
        firstListed(s);
        undo(s);
        save(s);
        restore(s);
    }

    /** Changes that the busy depot of day 5 lets pass, by name; those whose name ends in '=' leave the state the same. */
    private static void eachChange(java.util.function.BiConsumer<String, Act> each) {
        each.accept("addHammer", d -> d.addHammer(1, 2));
        each.accept("moveHammer", d -> d.moveHammer(1, 2));
        each.accept("swapPlaces", d -> d.swapPlaces(1, 0, 1));
        each.accept("swapPlaces of free places =", d -> d.swapPlaces(0, 4, 5));
        each.accept("request", d -> d.request(1, 30, 0, 6, 7));
        each.accept("cancelRequest", d -> d.cancelRequest(4));
        each.accept("grant", d -> d.grant(7));
        each.accept("grantMost", HammerDepot::grantMost);
        each.accept("giveBack", d -> d.giveBack(0, 100, 2));
        each.accept("renewFace", d -> d.renewFace(1));
        each.accept("renewFace for nothing =", d -> d.renewFace(2));
        each.accept("passDays", d -> d.passDays(3));
        each.accept("runScript", HammerDepot::runScript);
        each.accept("runScript of swaps =", d -> {
            Check.type(d, " 0");
            Check.outcome(d::runScript);
            return Check.run(d, "swap 045");
        });
    }

    private static void changes(Sentences s) {
        s.in("Changes").says("A change is a call of addHammer, moveHammer")
            .test("each of them", unused -> eachChange((name, act) -> {
                HammerDepot d = Depots.busy();
                Check.due(name + " returns", Check.outcome(() -> act.on(d)) instanceof Integer, true);
                Check.due("the state is the same after " + name, Check.face(d).equals(Check.face(Depots.busy())), name.endsWith("="));
                Check.due("undo of " + name, d.undo(), 7);
            }))
            .test("even if the state is the same: the most grants of no request", d -> {
                d.grantMost();
                Check.due("undo", d.undo(), 0);
            })
            .test("even if the state is the same: a swap of free places", d -> {
                d.swapPlaces(0, 0, 1);
                Check.due("undo", d.undo(), 0);
            })
            .test("even if the state is the same: a face without wear", d -> {
                d.addHammer(30, 0);
                d.renewFace(0);
                d.renewFace(0);
                Check.due("undo", d.undo(), 2);
            })
            .test("even if the state is the same: a script of 'most'", d -> {
                Check.run(d, "most;most");
                Check.due("undo", d.undo(), 0);
            })
            .test("a script is one change", d -> {
                d.passDays(1);
                Check.run(d, "day;day;hammer 30 0");
                Check.due("undo", d.undo(), 1);
                Check.due("day", d.day(), 1);
                Check.due("undo", d.undo(), 0);
                Check.due("day", d.day(), 0);
            });
    }

    private static void noChanges(Sentences s) {
        s.in("Changes").says("A change is a call of addHammer, moveHammer")
            .test("no other call is one", d -> {
                d.addHammer(30, 0);
                d.request(0, 30, 0, 1, 1);
                d.save();
                d.type('d');
                Check.face(d);
                d.mostGrants();
                d.mostGrantsBySets();
                d.bestHammer(0);
                d.isConsistent();
                d.bestChord(1);
                d.bestChordBySets(1);
                d.swapsToSort(0);
                d.swapsToSortByCycles(0);
                d.loudestPitch(0);
                d.hammerByWear(0);
                Check.due("undo of the request", d.undo(), 1);
                Check.due("undo of the hammer", d.undo(), 0);
            })
            .test("no undo is one", d -> {
                d.passDays(1);
                d.passDays(2);
                d.undo();
                d.undo();
                Check.refused("undo", STATE, d::undo);
                Check.due("day", d.day(), 0);
            })
            .test("no refused call is one", d -> {
                Check.outcome(() -> d.addHammer(61, 0));
                Check.outcome(() -> d.moveHammer(0, 0));
                Check.outcome(() -> d.swapPlaces(0, 1, 1));
                Check.outcome(() -> d.request(10, 0, 0, 1, 1));
                Check.outcome(() -> d.cancelRequest(0));
                Check.outcome(() -> d.grant(0));
                Check.outcome(() -> d.giveBack(0, 0, 0));
                Check.outcome(() -> d.renewFace(0));
                Check.outcome(() -> d.passDays(0));
                Check.run(d, "day 0");
                Check.run(d, "x");
                Check.refused("undo", STATE, d::undo);
            });
    }

    private static void latestEight(Sentences s) {
        s.in("Changes").says("The latest 8 changes can be undone, the latest one first")
            .test("after 1 to 30 changes", unused -> {
                for (int changes = 1; changes <= 30; changes++) {
                    HammerDepot d = new HammerDepot();
                    for (int i = 0; i < changes; i++) {
                        d.passDays(1);
                    }
                    int undone = Math.min(changes, 8);
                    for (int i = 1; i <= undone; i++) {
                        Check.due("undo " + i + " of " + changes, d.undo(), undone - i);
                        Check.due("day after it", d.day(), changes - i);
                    }
                    Check.refused("undo of one more of " + changes, STATE, d::undo);
                    Check.due("day", d.day(), changes - undone);
                }
            })
            .test("changes and undoing by turns", d -> {
                int[] days = new int[9];
                int count = 0;
                for (int i = 0; i < 230; i++) {
                    if (i * 7 % 5 < 3) {
                        d.passDays(1 + i % 9);
                        if (count == 8) {
                            System.arraycopy(days, 1, days, 0, 8);
                            count = 7;
                        }
                        count++;
                        days[count] = days[count - 1] + 1 + i % 9;
                    } else if (count > 0) {
                        count--;
                        Check.due("undo at " + i, d.undo(), count);
                    }
                    Check.due("day at " + i, d.day(), days[count]);
                }
            })
            .test("refused calls between do not cost the oldest one", d -> {
                for (int i = 0; i < 8; i++) {
                    d.passDays(1);
                    Check.outcome(() -> d.passDays(0));
                }
                Check.run(d, "day;day 0");
                Check.run(d, "dax");
                for (int left = 7; left >= 0; left--) {
                    Check.due("undo", d.undo(), left);
                    Check.due("day", d.day(), left);
                }
                Check.refused("undo", STATE, d::undo);
            })
            .test("after undoing, a change takes the place of the undone one", d -> {
                d.addHammer(10, 0);
                d.addHammer(20, 0);
                d.undo();
                d.addHammer(30, 1);
                Check.due("pitch", d.pitch(1), 30);
                Check.due("undo", d.undo(), 1);
                Check.due("undo", d.undo(), 0);
                Check.due("hammerCount", d.hammerCount(), 0);
            });
    }

    private static void everythingCovered(Sentences s) {
        s.in("Changes").says("Undo and the snapshot cover everything, including the next id of a request")
            .test("undo of each change", unused -> eachChange((name, act) -> {
                HammerDepot d = Depots.busy();
                act.on(d);
                d.undo();
                Check.due("state after " + name, Check.face(d), Check.face(Depots.busy()));
            }))
            .test("the snapshot after each change", unused -> eachChange((name, act) -> {
                HammerDepot d = Depots.busy();
                d.save();
                act.on(d);
                d.passDays(9);
                d.restore();
                Check.due("state after " + name, Check.face(d), Check.face(Depots.busy()));
            }))
            .test("the next id of a request", d -> {
                d.request(0, 0, 0, 1, 1);
                d.save();
                d.request(0, 0, 0, 1, 1);
                d.undo();
                Check.due("after undo", d.request(0, 0, 0, 1, 1), 1);
                d.request(0, 0, 0, 1, 1);
                d.cancelRequest(0);
                d.restore();
                Check.due("after restore", d.request(0, 0, 0, 1, 1), 1);
            })
            .test("a hammer whose index was used once more", d -> {
                Depots.into(d, 0, 20);
                d.save();
                d.undo();
                Depots.into(d, 1, 40);
                d.restore();
                Check.due("pitch", d.pitch(0), 20);
                Check.due("the hammer", Depots.hammer(d, 0), "0p20w0");
                Check.due("the rack", Depots.rack(d, 0), "0,-,-,-,-,-");
                Check.due("the other rack", Depots.rack(d, 1), "-,-,-,-,-,-");
            })
            .test("a hammer that was lent once more", d -> {
                d.addHammer(30, 0);
                Depots.book(d, 1, 30, 1, 2);
                Depots.book(d, 2, 30, 5, 9);
                d.passDays(1);
                d.save();
                for (int i = 0; i < 2; i++) {
                    d.giveBack(0, 70, 0);
                    d.passDays(4);
                    Check.due("the second time", Depots.hammer(d, 0), "0p30w7@2<9");
                    if (i == 0) {
                        d.undo();
                        d.undo();
                    } else {
                        d.restore();
                    }
                    Check.due("the first time", Depots.hammer(d, 0), "0p30w0@1<2");
                }
            })
            .test("a request whose place in the order was taken by another one", UndoSentences::requestComesBack)
            .test("a booking whose place in the order was taken by another one", UndoSentences::bookingComesBack)
            .test("the totals and the accounts", d -> {
                Depots.into(d, 0, 30, 31);
                Depots.book(d, 0, 30, 1, 1);
                Depots.book(d, 0, 30, 2, 2);
                d.save();
                d.passDays(4);
                d.giveBack(0, 50, 0);
                d.renewFace(0);
                d.restore();
                Check.due("brokenTotal", d.brokenTotal(), 0);
                Check.due("lentTotal", d.lentTotal(), 0);
                Check.due("coins", d.coins(), 22);
                Check.due("coinsByAccounts", d.coinsByAccounts(), 22);
                Check.due("bookings", d.bookings(0), 2);
                Check.due("lent on day 1", d.passDays(1), 1);
                d.undo();
                Check.due("bookings", d.bookings(0), 2);
                Check.due("lentTotal", d.lentTotal(), 0);
            })
            .test("what comes after goes its way as it would have gone", unused -> eachChange((name, act) -> {
                HammerDepot d = Depots.busy();
                act.on(d);
                d.undo();
                HammerDepot other = Depots.busy();
                for (HammerDepot each : new HammerDepot[] {d, other}) {
                    each.request(3, 42, 12, 6, 6);
                    each.grantMost();
                    each.passDays(4);
                }
                Check.due("state after " + name, Check.face(d), Check.face(other));
            }));
    }

    /** A request is told by the hammers that fit it, and by the borrower and the days of its booking. */
    private static void requestComesBack(HammerDepot d) {
        Depots.into(d, 0, 20, 26, 40);
        d.request(3, 23, 3, 4, 6);
        d.save();
        for (int i = 0; i < 2; i++) {
            d.cancelRequest(0);
            d.request(7, 40, 0, 9, 9);
            Check.due("the other one fits", d.fits(1, 2), true);
            if (i == 0) {
                d.undo();
                d.undo();
            } else {
                d.restore();
            }
            Check.due("the id", d.requestAt(0), 0);
            Check.due("fits 0", d.fits(0, 0), true);
            Check.due("fits 1", d.fits(0, 1), true);
            Check.due("fits 2", d.fits(0, 2), false);
            d.grant(0);
            for (int day = 3; day <= 7; day++) {
                Check.due("booked on day " + day, d.isBooked(0, day), day >= 4 && day <= 6);
            }
            d.passDays(4);
            Check.due("the hammer", Depots.hammer(d, 0), "0p20w0@3<6");
            d.undo();
            d.undo();
        }
    }

    private static void bookingComesBack(HammerDepot d) {
        Depots.into(d, 0, 20, 30);
        d.request(4, 30, 0, 2, 3);
        d.request(3, 20, 0, 4, 6);
        d.grant(1);
        d.save();
        for (int i = 0; i < 2; i++) {
            if (i == 0) {
                d.undo();
                d.grant(0);
                d.undo();
                d.grant(1);
            } else {
                d.passDays(5);
                d.giveBack(0, 0, 0);
                Depots.book(d, 9, 30, 8, 8);
                d.restore();
            }
            Check.due("bookings of 0", d.bookings(0), 1);
            Check.due("bookings of 1", d.bookings(1), 0);
            for (int day = 1; day <= 9; day++) {
                Check.due("booked on day " + day, d.isBooked(0, day), day >= 4 && day <= 6);
            }
            d.passDays(4);
            Check.due("the hammer", Depots.hammer(d, 0), "0p20w0@3<6");
            d.undo();
        }
        d.passDays(4);
        d.giveBack(0, 0, 0);
        Depots.book(d, 9, 30, 8, 8);
        d.undo();
        d.undo();
        d.undo();
        d.undo();
        Check.due("bookings of 1", d.bookings(1), 0);
        d.passDays(4);
        Check.due("the hammer", Depots.hammer(d, 0), "0p20w0@3<6");
    }

    private static void leftOutOfUndo(Sentences s) {
        s.in("Changes").says("Undo and the snapshot cover everything, including the next id of a request")
            .test("undo leaves the script buffer", d -> {
                d.passDays(1);
                Check.type(d, "day");
                d.undo();
                Check.due("type", d.type(' '), 4);
                d.type('5');
                Check.due("runScript", d.runScript(), 1);
                Check.due("day", d.day(), 5);
            })
            .test("undo of a script does not bring it back into the buffer", d -> {
                Check.run(d, "day");
                d.undo();
                Check.due("type", d.type('x'), 1);
            })
            .test("undo leaves the error position", d -> {
                d.passDays(1);
                Check.run(d, "dax");
                d.undo();
                Check.due("errorPosition", d.errorPosition(), 2);
            })
            .test("undo leaves the index of the failed command", d -> {
                d.passDays(1);
                Check.run(d, "day;day 0");
                d.undo();
                Check.due("failedCommand", d.failedCommand(), 1);
            })
            .test("undo leaves the output text", d -> {
                d.addHammer(30, 0);
                int length = d.renderHammer(0);
                d.undo();
                Check.due("the text", Check.output(d, length), "0p30w0");
                Check.refused("behind the end", INDEX, () -> d.outputAt(length));
            })
            .test("undo leaves the snapshot", d -> {
                d.addHammer(30, 0);
                d.save();
                d.undo();
                Check.due("restore", d.restore(), 1);
                Check.due("pitch", d.pitch(0), 30);
            });
    }

    private static void leftOutOfTheSnapshot(Sentences s) {
        s.in("Changes").says("Undo and the snapshot cover everything, including the next id of a request")
            .test("restore leaves the script buffer", d -> {
                d.type('d');
                d.save();
                d.type('a');
                d.restore();
                Check.due("type", d.type('y'), 3);
                Check.due("runScript", d.runScript(), 1);
                d.restore();
                Check.due("type", d.type('x'), 1);
            })
            .test("restore leaves the error position", d -> {
                d.save();
                Check.run(d, "dax");
                d.restore();
                Check.due("errorPosition", d.errorPosition(), 2);
            })
            .test("restore leaves the index of the failed command", d -> {
                d.save();
                Check.run(d, "day;day 0");
                d.restore();
                Check.due("failedCommand", d.failedCommand(), 1);
            })
            .test("restore leaves the output text", d -> {
                d.renderRack(0);
                d.save();
                d.addHammer(30, 0);
                int length = d.renderHammer(0);
                d.restore();
                Check.due("the text", Check.output(d, length), "0p30w0");
                Check.refused("behind the end", INDEX, () -> d.outputAt(length));
            })
            .test("restore leaves the snapshot", d -> {
                d.addHammer(30, 0);
                d.save();
                d.restore();
                d.addHammer(31, 0);
                Check.due("restore again", d.restore(), 1);
            });
    }

    /** Two depots of one kind, of which one gets a call that is refused: whatever is read of them is the same. */
    private static void changesNothing(String name, Start start, Class<? extends RuntimeException> want, Act act) {
        HammerDepot called = start.depot();
        HammerDepot other = start.depot();
        Check.refused(name, want, () -> act.on(called));
        Check.due("everything after " + name, Depots.everything(called), Depots.everything(other));
        HammerDepot again = start.depot();
        Check.outcome(() -> act.on(again));
        HammerDepot second = start.depot();
        for (int i = 0; i < 9; i++) {
            Check.due("undo after " + name, Check.outcome(again::undo), Check.outcome(second::undo));
            Check.due("day after " + name, again.day(), second.day());
            Check.due("coins after " + name, again.coins(), second.coins());
            Check.due("hammers after " + name, again.hammerCount(), second.hammerCount());
        }
        Check.due("the oldest state after " + name, Check.face(again), Check.face(second));
        Check.due("restore after " + name, Check.outcome(again::restore), Check.outcome(second::restore));
        Check.due("the next id after " + name, Check.outcome(() -> again.request(0, 0, 0, 40, 40)),
                Check.outcome(() -> second.request(0, 0, 0, 40, 40)));
        Check.due("the buffer after " + name, Check.outcome(again::runScript), Check.outcome(second::runScript));
        Check.due("the day of the buffer after " + name, again.day(), second.day());
    }

    private static void refusedChanges(Sentences s) {
        s.in("Changes").says("A method that throws an exception changes nothing unless its description says otherwise")
            .test("addHammer, moveHammer and swapPlaces", unused -> {
                changesNothing("addHammer(61, 0)", Depots::busy, ARGUMENT, d -> d.addHammer(61, 0));
                changesNothing("addHammer(0, 3)", Depots::busy, INDEX, d -> d.addHammer(0, 3));
                changesNothing("moveHammer(6, 0)", Depots::busy, INDEX, d -> d.moveHammer(6, 0));
                changesNothing("moveHammer(0, 3)", Depots::busy, INDEX, d -> d.moveHammer(0, 3));
                changesNothing("moveHammer of a lent one", Depots::busy, STATE, d -> d.moveHammer(0, 1));
                changesNothing("moveHammer into its own rack", Depots::busy, STATE, d -> d.moveHammer(2, 1));
                changesNothing("swapPlaces(3, 0, 1)", Depots::busy, INDEX, d -> d.swapPlaces(3, 0, 1));
                changesNothing("swapPlaces(2, 0, 6)", Depots::busy, INDEX, d -> d.swapPlaces(2, 0, 6));
                changesNothing("swapPlaces(2, 5, 5)", Depots::busy, ARGUMENT, d -> d.swapPlaces(2, 5, 5));
            })
            .test("request and cancelRequest", unused -> {
                changesNothing("borrower 10", Depots::busy, ARGUMENT, d -> d.request(10, 0, 0, 6, 6));
                changesNothing("pitch 61", Depots::busy, ARGUMENT, d -> d.request(0, 61, 0, 6, 6));
                changesNothing("tolerance 13", Depots::busy, ARGUMENT, d -> d.request(0, 0, 13, 6, 6));
                changesNothing("first day 5", Depots::busy, ARGUMENT, d -> d.request(0, 0, 0, 5, 6));
                changesNothing("last day 6", Depots::busy, ARGUMENT, d -> d.request(0, 0, 0, 7, 6));
                changesNothing("last day 46", Depots::busy, ARGUMENT, d -> d.request(0, 0, 0, 6, 46));
                changesNothing("cancelRequest(8)", Depots::busy, ELEMENT, d -> d.cancelRequest(8));
            })
            .test("grant", unused -> {
                changesNothing("grant(8)", Depots::busy, ELEMENT, d -> d.grant(8));
                changesNothing("grant of one that has come", Depots::busy, STATE, d -> d.grant(4));
                changesNothing("grant of one that none fits", Depots::busy, UNSUPPORTED, d -> d.grant(5));
            })
            .test("giveBack, renewFace and passDays", unused -> {
                changesNothing("giveBack(6, 0, 0)", Depots::busy, INDEX, d -> d.giveBack(6, 0, 0));
                changesNothing("giveBack(0, 0, 3)", Depots::busy, INDEX, d -> d.giveBack(0, 0, 3));
                changesNothing("giveBack(0, 1000, 0)", Depots::busy, ARGUMENT, d -> d.giveBack(0, 1000, 0));
                changesNothing("giveBack of one that is not lent", Depots::busy, STATE, d -> d.giveBack(1, 100, 0));
                changesNothing("renewFace(6)", Depots::busy, INDEX, d -> d.renewFace(6));
                changesNothing("renewFace of a lent one", Depots::busy, STATE, d -> d.renewFace(0));
                changesNothing("passDays(0)", Depots::busy, ARGUMENT, d -> d.passDays(0));
                changesNothing("passDays(31)", Depots::busy, ARGUMENT, d -> d.passDays(31));
            });
    }

    private static HammerDepot withFullRack() {
        HammerDepot d = Depots.busy();
        Depots.into(d, 2, 1, 2, 3, 4);
        return d;
    }

    private static HammerDepot withTwelveHammers() {
        HammerDepot d = Depots.busy();
        Depots.into(d, 0, 1, 2, 3, 4, 5, 6);
        return d;
    }

    private static HammerDepot withEightRequests() {
        HammerDepot d = Depots.busy();
        for (int i = 0; i < 4; i++) {
            d.request(i, 1, 1, 9, 9);
        }
        return d;
    }

    private static HammerDepot withFewCoins() {
        HammerDepot d = Depots.busy();
        Depots.wearOff(d, 3, 99, 0);
        d.renewFace(3);
        return d;
    }

    private static void refusedOnFullDepots(Sentences s) {
        s.in("Changes").says("A method that throws an exception changes nothing unless its description says otherwise")
            .test("a full rack", unused -> {
                changesNothing("addHammer", UndoSentences::withFullRack, STATE, d -> d.addHammer(0, 2));
                changesNothing("moveHammer", UndoSentences::withFullRack, STATE, d -> d.moveHammer(1, 2));
                changesNothing("giveBack", UndoSentences::withFullRack, STATE, d -> d.giveBack(0, 100, 2));
            })
            .test("twelve hammers, eight requests, few coins", unused -> {
                changesNothing("addHammer", UndoSentences::withTwelveHammers, STATE, d -> d.addHammer(0, 2));
                changesNothing("request", UndoSentences::withEightRequests, STATE, d -> d.request(0, 0, 0, 9, 9));
                changesNothing("renewFace", UndoSentences::withFewCoins, UNSUPPORTED, d -> d.renewFace(1));
            });
    }

    private static void refusedReading(Sentences s) {
        s.in("Changes").says("A method that throws an exception changes nothing unless its description says otherwise")
            .test("what is read of hammers and requests", unused -> {
                changesNothing("pitch(6)", Depots::busy, INDEX, d -> d.pitch(6));
                changesNothing("borrower of one that is not lent", Depots::busy, ELEMENT, d -> d.borrower(1));
                changesNothing("rackOf of a lent one", Depots::busy, ELEMENT, d -> d.rackOf(0));
                changesNothing("hammerAt of a free place", Depots::busy, ELEMENT, d -> d.hammerAt(2, 0));
                changesNothing("fits(8, 0)", Depots::busy, ELEMENT, d -> d.fits(8, 0));
                changesNothing("bestHammer(5)", Depots::busy, ELEMENT, d -> d.bestHammer(5));
                changesNothing("requestAt(4)", Depots::busy, ELEMENT, d -> d.requestAt(4));
                changesNothing("hammerByWear(6)", Depots::busy, ELEMENT, d -> d.hammerByWear(6));
            })
            .test("what is read of racks", unused -> {
                changesNothing("loudness(3, 0)", Depots::busy, INDEX, d -> d.loudness(3, 0));
                changesNothing("loudestPitch(0)", Depots::busy, ELEMENT, d -> d.loudestPitch(0));
                changesNothing("bestChord(6)", Depots::busy, ARGUMENT, d -> d.bestChord(6));
                changesNothing("bestChordBySets(0)", Depots::busy, ARGUMENT, d -> d.bestChordBySets(0));
                changesNothing("swapsToSort(3)", Depots::busy, INDEX, d -> d.swapsToSort(3));
            })
            .test("renderRack, renderHammer and outputAt leave the output text", unused -> {
                changesNothing("renderRack(3)", Depots::busy, INDEX, d -> d.renderRack(3));
                changesNothing("renderHammer(6)", Depots::busy, INDEX, d -> d.renderHammer(6));
                changesNothing("outputAt(20)", Depots::busy, INDEX, d -> d.outputAt(20));
            })
            .test("type", unused -> {
                changesNothing("type of 127", Depots::busy, ARGUMENT, d -> d.type((char) 127));
                changesNothing("type into a full buffer", UndoSentences::withFullBuffer, STATE, d -> d.type(' '));
            })
            .test("undo and restore", unused -> {
                changesNothing("restore", UndoSentences::withoutSnapshot, STATE, HammerDepot::restore);
                changesNothing("undo", UndoSentences::withoutChanges, STATE, HammerDepot::undo);
            });
    }

    private static HammerDepot withFullBuffer() {
        HammerDepot d = Depots.busy();
        Check.type(d, ";day".repeat(14) + " ");
        return d;
    }

    private static HammerDepot withoutSnapshot() {
        HammerDepot d = new HammerDepot();
        Depots.into(d, 0, 30, 31);
        d.request(0, 30, 0, 1, 1);
        return d;
    }

    private static HammerDepot withoutChanges() {
        HammerDepot d = Depots.busy();
        d.save();
        d.restore();
        return d;
    }

    private static void refusedScripts(Sentences s) {
        s.in("Changes").says("A method that throws an exception changes nothing unless its description says otherwise")
            .test("a script without the form", unused -> {
                HammerDepot d = Depots.busy();
                HammerDepot other = Depots.busy();
                Check.due("runScript", Check.run(d, ";hammer 1 0;x"), ARGUMENT);
                Check.due("state", Check.face(d), Check.face(other));
                Check.due("failedCommand", d.failedCommand(), 1);
                Check.due("undo", d.undo(), 7);
                Check.due("restore", d.restore(), 6);
                Check.due("day of the snapshot", d.day(), 2);
            })
            .test("a failed script", unused -> {
                HammerDepot d = Depots.busy();
                HammerDepot other = Depots.busy();
                Check.due("runScript", Check.run(d, ";hammer 1 0;grant 7;day 30;day 0"), STATE);
                Check.due("state", Check.face(d), Check.face(other));
                Check.due("errorPosition", d.errorPosition(), 2);
                Check.due("undo", d.undo(), 7);
                Check.due("restore", d.restore(), 6);
                Check.due("day of the snapshot", d.day(), 2);
            })
            .test("the output text after both", d -> {
                int length = d.renderRack(0);
                Check.run(d, "hammer 1 0;x");
                Check.run(d, "hammer 1 0;day 0");
                Check.due("the text", Check.output(d, length), "-,-,-,-,-,-");
            })
            .test("the eight changes that can be undone after a failed script", d -> {
                for (int i = 0; i < 8; i++) {
                    d.passDays(1);
                }
                Check.run(d, "day;day;day;day;day;day;day;day;day;day 0");
                for (int left = 7; left >= 0; left--) {
                    Check.due("undo", d.undo(), left);
                    Check.due("day", d.day(), left);
                }
            });
    }

    private static void firstListed(Sentences s) {
        s.in("Changes").says("If several exceptions apply, the one that is listed first is thrown")
            .test("addHammer", unused -> {
                HammerDepot d = withTwelveHammers();
                Check.refused("pitch and rack", ARGUMENT, () -> d.addHammer(-1, 3));
                Check.refused("pitch and twelve hammers", ARGUMENT, () -> d.addHammer(61, 0));
                Check.refused("rack and twelve hammers", INDEX, () -> d.addHammer(0, -1));
            })
            .test("moveHammer", unused -> {
                HammerDepot d = withFullRack();
                Check.refused("hammer and a full rack", INDEX, () -> d.moveHammer(10, 2));
                Check.refused("rack and lent", INDEX, () -> d.moveHammer(0, 3));
            })
            .test("swapPlaces", d -> {
                Check.refused("rack and the same places", INDEX, () -> d.swapPlaces(3, 0, 0));
                Check.refused("places that are the same", INDEX, () -> d.swapPlaces(0, 6, 6));
                Check.refused("places that are the same", INDEX, () -> d.swapPlaces(0, -1, -1));
            })
            .test("request", unused -> {
                HammerDepot d = withEightRequests();
                Check.refused("borrower and eight", ARGUMENT, () -> d.request(10, 0, 0, 9, 9));
                Check.refused("pitch and eight", ARGUMENT, () -> d.request(0, 61, 0, 9, 9));
                Check.refused("tolerance and eight", ARGUMENT, () -> d.request(0, 0, 13, 9, 9));
                Check.refused("first day and eight", ARGUMENT, () -> d.request(0, 0, 0, 5, 9));
                Check.refused("last day and eight", ARGUMENT, () -> d.request(0, 0, 0, 9, 8));
                Check.refused("a far day and eight", ARGUMENT, () -> d.request(0, 0, 0, 9, 46));
            })
            .test("grant", d -> {
                d.request(0, 30, 0, 1, 1);
                d.passDays(1);
                Check.refused("has come and no hammer", STATE, () -> d.grant(0));
                d.cancelRequest(0);
                Check.refused("gone and no hammer", ELEMENT, () -> d.grant(0));
            })
            .test("giveBack", unused -> {
                HammerDepot d = withFullRack();
                Check.refused("hammer and strikes", INDEX, () -> d.giveBack(10, -1, 0));
                Check.refused("rack and strikes", INDEX, () -> d.giveBack(0, 1000, 3));
                Check.refused("rack and not lent", INDEX, () -> d.giveBack(1, 0, -1));
                Check.refused("strikes and not lent", ARGUMENT, () -> d.giveBack(1, -1, 0));
                Check.refused("strikes and a full rack", ARGUMENT, () -> d.giveBack(0, 1000, 2));
            })
            .test("renewFace", d -> {
                Depots.into(d, 0, 30, 31, 32);
                Depots.wearOff(d, 0, 99, 0);
                Depots.wearOff(d, 1, 99, 0);
                d.renewFace(0);
                Depots.lend(d, 31, 1);
                Check.due("coins", d.coins(), 3);
                Check.refused("lent and too few coins", STATE, () -> d.renewFace(1));
            })
            .test("hammerAt, borrower, rackOf and their like", d -> {
                d.addHammer(30, 0);
                Check.refused("rack and a free place", INDEX, () -> d.hammerAt(3, 5));
                Check.refused("place", INDEX, () -> d.hammerAt(1, 6));
                Check.refused("hammer, which nobody has", INDEX, () -> d.borrower(1));
                Check.refused("hammer, which nobody has", INDEX, () -> d.dueDay(1));
                Check.refused("hammer, which lies nowhere", INDEX, () -> d.rackOf(1));
                Check.refused("hammer, which lies nowhere", INDEX, () -> d.placeOf(1));
            })
            .test("fits, bestHammer", d -> {
                Check.refused("request and hammer", ELEMENT, () -> d.fits(0, 0));
                Check.refused("request and hammer", ELEMENT, () -> d.fits(-1, 12));
                Check.refused("request and no hammer", ELEMENT, () -> d.bestHammer(0));
            })
            .test("loudestPitch and the chords", d -> {
                Check.refused("rack, in which are none", INDEX, () -> d.loudestPitch(3));
                Check.refused("rack, in which are none", INDEX, () -> d.loudestPitch(-1));
                Check.refused("size 0 and no hammer", ARGUMENT, () -> d.bestChord(0));
                Check.refused("size 6 and no hammer", ARGUMENT, () -> d.bestChord(6));
                Check.refused("size 0 and no hammer", ARGUMENT, () -> d.bestChordBySets(0));
                Check.refused("size 6 and no hammer", ARGUMENT, () -> d.bestChordBySets(6));
            })
            .test("type and runScript", d -> {
                Check.type(d, "x".repeat(60));
                Check.refused("character and a full buffer", ARGUMENT, () -> d.type((char) 127));
                Check.refused("character and a full buffer", ARGUMENT, () -> d.type((char) 31));
                Check.outcome(d::runScript);
                Check.due("form and a failing command", Check.run(d, "day 0;day;"), ARGUMENT);
            });
    }

    private static void undo(Sentences s) {
        s.promise(52).says("Undoes the latest change that has not been undone")
            .test("one after the other", d -> {
                d.addHammer(30, 0);
                d.passDays(2);
                d.request(0, 30, 0, 3, 3);
                d.undo();
                Check.due("the request", d.requestCount(), 0);
                Check.due("not the days", d.day(), 2);
                d.undo();
                Check.due("the days", d.day(), 0);
                Check.due("not the hammer", d.hammerCount(), 1);
                d.undo();
                Check.due("the hammer", d.hammerCount(), 0);
            })
            .test("a change after undoing", d -> {
                d.passDays(1);
                d.passDays(2);
                d.undo();
                d.passDays(4);
                d.undo();
                Check.due("day", d.day(), 1);
                d.undo();
                Check.due("day", d.day(), 0);
            });
        s.says("Returns the number of changes that can still be undone")
            .test("from 7 to 0", d -> {
                for (int i = 0; i < 12; i++) {
                    d.passDays(1);
                }
                for (int left = 7; left >= 0; left--) {
                    Check.due("undo", d.undo(), left);
                }
            })
            .test("0 for one change", d -> {
                d.passDays(1);
                Check.due("undo", d.undo(), 0);
            });
        s.says("Throws")
            .test("nothing yet", d -> Check.refused("undo", STATE, d::undo))
            .test("all undone", d -> {
                d.passDays(1);
                d.undo();
                Check.refused("undo", STATE, d::undo);
                Check.refused("once more", STATE, d::undo);
            })
            .test("the ninth", d -> {
                for (int i = 0; i < 9; i++) {
                    d.passDays(1);
                }
                for (int i = 0; i < 8; i++) {
                    d.undo();
                }
                Check.refused("undo", STATE, d::undo);
                Check.due("day", d.day(), 1);
            })
            .test("after restore", d -> {
                d.save();
                d.passDays(1);
                d.restore();
                Check.refused("undo", STATE, d::undo);
            });
    }

    private static void save(Sentences s) {
        s.promise(53).says("Takes a snapshot, which replaces an earlier one")
            .test("the later one", d -> {
                d.addHammer(30, 0);
                d.save();
                d.addHammer(31, 0);
                d.passDays(3);
                d.save();
                d.passDays(4);
                d.restore();
                Check.due("day", d.day(), 3);
                Check.due("hammerCount", d.hammerCount(), 2);
            })
            .test("what comes after does not get into it", unused -> {
                HammerDepot d = Depots.busy();
                d.save();
                d.swapPlaces(1, 0, 5);
                d.giveBack(0, 500, 0);
                d.grantMost();
                d.passDays(5);
                d.restore();
                Check.due("state", Check.face(d), Check.face(Depots.busy()));
            })
            .test("it leaves what can be undone", d -> {
                d.passDays(1);
                d.save();
                Check.due("undo", d.undo(), 0);
                Check.due("day", d.day(), 0);
            });
        s.says("Returns the number of hammers")
            .test("0, 1 and 12", d -> {
                Check.due("0", d.save(), 0);
                for (int i = 1; i <= 12; i++) {
                    d.addHammer(i, i % 3);
                    Check.due("save", d.save(), i);
                }
            })
            .test("lent ones too", d -> {
                Depots.into(d, 0, 30, 31);
                Depots.lend(d, 30, 1);
                Check.due("save", d.save(), 2);
            });
    }

    private static void restore(Sentences s) {
        s.promise(54).says("Restores the snapshot, which is kept")
            .test("again and again", d -> {
                d.addHammer(30, 0);
                d.save();
                for (int i = 0; i < 3; i++) {
                    d.addHammer(31, 1);
                    d.passDays(7);
                    Check.due("restore", d.restore(), 1);
                    Check.due("day", d.day(), 0);
                }
            })
            .test("the changes after it do not get into it", d -> {
                Depots.into(d, 0, 30, 31);
                d.save();
                d.restore();
                d.swapPlaces(0, 0, 5);
                d.moveHammer(1, 2);
                d.restore();
                Check.due("rack 0", Depots.rack(d, 0), "0,1,-,-,-,-");
                Check.due("placeOf", d.placeOf(0), 0);
            })
            .test("a snapshot of an empty depot", d -> {
                d.save();
                d.addHammer(30, 0);
                d.request(0, 30, 0, 1, 1);
                Check.due("restore", d.restore(), 0);
                Check.due("everything", Depots.everything(d), Depots.everything(new HammerDepot()));
            });
        s.says("Afterwards there is nothing to undo")
            .test("after many changes", d -> {
                for (int i = 0; i < 9; i++) {
                    d.passDays(1);
                }
                d.save();
                d.restore();
                Check.refused("undo", STATE, d::undo);
                Check.due("day", d.day(), 9);
            })
            .test("the changes after it can be undone", d -> {
                d.passDays(1);
                d.save();
                d.passDays(1);
                d.restore();
                d.passDays(5);
                Check.due("undo", d.undo(), 0);
                Check.due("day", d.day(), 1);
                Check.refused("undo", STATE, d::undo);
            });
        s.says("Returns the number of hammers")
            .test("that of the snapshot", d -> {
                d.addHammer(30, 0);
                d.save();
                d.addHammer(31, 0);
                d.addHammer(32, 0);
                Check.due("restore", d.restore(), 1);
            });
        s.says("Throws")
            .test("no snapshot", d -> {
                Check.refused("at first", STATE, d::restore);
                d.passDays(1);
                Check.refused("after a change", STATE, d::restore);
                Check.due("undo", d.undo(), 0);
                d.save();
                Check.due("after save", d.restore(), 0);
            });
    }
}
