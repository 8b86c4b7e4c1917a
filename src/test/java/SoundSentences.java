import java.util.NoSuchElementException;

/** Tests for the sentences about overtones and sorting, and of the promises 29 to 35. */
final class SoundSentences {
    private static final Class<IndexOutOfBoundsException> INDEX = IndexOutOfBoundsException.class;
    private static final Class<IllegalArgumentException> ARGUMENT = IllegalArgumentException.class;
    private static final Class<NoSuchElementException> ELEMENT = NoSuchElementException.class;

    private SoundSentences() {
    }

    static void all(Sentences s) {
        sounding(s);
        chordTerms(s);
        sortedTerms(s);
        loudness(s);
        loudestPitch(s);
        consonance(s);
        bothChords(s, 32, "Returns the greatest consonance of a chord", HammerDepot::bestChord);
        bothChords(s, 33, "Returns the same number as bestChord", HammerDepot::bestChordBySets);
        bothSwaps(s, 34, "Returns the smallest number of swaps that sort a rack", HammerDepot::swapsToSort);
        bothSwaps(s, 35, "Returns the same number as swapsToSort", HammerDepot::swapsToSortByCycles);
    }

    private static int loudnessAbove(int distance) {
        return distance == 0 ? 8 : distance == 12 ? 4 : distance == 19 ? 2 : distance == 24 ? 1 : 0;
    }

    private static void sounding(Sentences s) {
        s.in("Overtones").says("A hammer with the pitch p sounds")
            .test("the pitch 0, from below to above", d -> {
                d.addHammer(0, 0);
                for (int pitch = -30; pitch <= 90; pitch++) {
                    Check.due("at " + pitch, d.loudness(0, pitch), loudnessAbove(pitch));
                }
            })
            .test("the pitch 60, from below to above", d -> {
                d.addHammer(60, 2);
                for (int pitch = -30; pitch <= 90; pitch++) {
                    Check.due("at " + pitch, d.loudness(2, pitch), loudnessAbove(pitch - 60));
                }
            });
        s.says("The loudness of a rack at a pitch is the sum over its hammers")
            .test("an empty rack", d -> {
                d.addHammer(30, 0);
                Check.due("rack 1", d.loudness(1, 30), 0);
            })
            .test("six hammers with one pitch, and one in another rack", d -> {
                Depots.into(d, 1, 30, 30, 30, 30, 30, 30);
                d.addHammer(30, 2);
                Check.due("rack 1", d.loudness(1, 30), 48);
                Check.due("rack 2", d.loudness(2, 30), 8);
            })
            .test("all four overtones at one pitch", d -> {
                Depots.into(d, 0, 40, 28, 21, 16);
                Check.due("at 40", d.loudness(0, 40), 15);
            })
            .test("a lent hammer does not sound, a moved one sounds elsewhere", d -> {
                Depots.into(d, 0, 30, 18);
                Depots.lend(d, 18, 1);
                Check.due("without the lent one", d.loudness(0, 30), 8);
                d.moveHammer(0, 1);
                Check.due("the old rack", d.loudness(0, 30), 0);
                Check.due("the new rack", d.loudness(1, 30), 8);
            });
        s.says("The consonance of two hammers is the sum over all pitches")
            .test("all distances", unused -> {
                for (int low = 0; low <= 60; low += 10) {
                    HammerDepot d = new HammerDepot();
                    d.addHammer(0, 0);
                    for (int i = 0; i < 10 && low + i <= 60; i++) {
                        d.addHammer(low + i, i % 3);
                        int distance = low + i;
                        int want = distance == 0 ? 15 : distance == 5 ? 1 : distance == 7 ? 2 : distance == 12 ? 5
                                : distance == 19 ? 2 : distance == 24 ? 1 : 0;
                        Check.due("distance " + distance, d.consonance(0, i + 1), want);
                    }
                }
            });
    }

    private static void chordTerms(Sentences s) {
        s.in("Overtones").says("A chord is a set of hammers that lie in racks")
            .test("in the same rack and in different ones", d -> {
                Depots.into(d, 0, 12, 24);
                Check.due("the same", d.bestChord(2), 5);
                d.moveHammer(1, 2);
                Check.due("different ones", d.bestChord(2), 5);
                Check.due("different ones", d.bestChordBySets(2), 5);
            })
            .test("a lent hammer is in no chord", d -> {
                Depots.into(d, 0, 12, 40, 24);
                Check.due("before", d.bestChord(2), 5);
                Check.due("before", d.bestChordBySets(2), 5);
                Depots.lend(d, 24, 1);
                Check.due("bestChord", d.bestChord(2), 0);
                Check.due("bestChordBySets", d.bestChordBySets(2), 0);
                d.giveBack(2, 0, 1);
                Check.due("given back", d.bestChord(2), 5);
                Check.due("given back", d.bestChordBySets(2), 5);
            })
            .test("a hammer alone has no pair, not even with itself", d -> {
                d.addHammer(12, 0);
                Check.due("bestChord", d.bestChord(1), 0);
                Check.due("bestChordBySets", d.bestChordBySets(1), 0);
            })
            .test("all pairs, each once", d -> {
                Depots.into(d, 0, 12, 24, 36);
                Check.due("bestChord", d.bestChord(3), 5 + 5 + 1);
                Check.due("bestChordBySets", d.bestChordBySets(3), 5 + 5 + 1);
            });
    }

    private static void bothAre(String what, HammerDepot d, int rack, int want) {
        Check.due("swapsToSort, " + what, d.swapsToSort(rack), want);
        Check.due("swapsToSortByCycles, " + what, d.swapsToSortByCycles(rack), want);
    }

    private static void sortedTerms(Sentences s) {
        s.in("Sorting").says("A rack is sorted if its hammers stand in the places from 0 on")
            .test("an empty rack, one hammer, a full rack", d -> {
                bothAre("empty", d, 0, 0);
                d.addHammer(60, 0);
                bothAre("one", d, 0, 0);
                Depots.into(d, 1, 1, 2, 3, 4, 5, 6);
                bothAre("full", d, 1, 0);
            })
            .test("without gaps", d -> {
                Depots.into(d, 0, 1, 2, 3);
                d.swapPlaces(0, 2, 3);
                bothAre("a gap before the last", d, 0, 1);
                d.swapPlaces(0, 2, 3);
                d.moveHammer(0, 1);
                bothAre("place 0 is free", d, 0, 2);
                d.swapPlaces(1, 0, 5);
                bothAre("one hammer in the last place", d, 1, 1);
            })
            .test("by pitch in ascending order", d -> {
                Depots.into(d, 0, 20, 10);
                bothAre("descending", d, 0, 1);
                Depots.into(d, 1, 10, 20);
                bothAre("ascending", d, 1, 0);
            })
            .test("then by index in ascending order", d -> {
                Depots.into(d, 0, 10, 10);
                bothAre("ascending", d, 0, 0);
                d.swapPlaces(0, 0, 1);
                bothAre("descending", d, 0, 1);
            })
            .test("pitch goes before index", d -> {
                Depots.into(d, 0, 20, 20, 10);
                bothAre("the last one goes first", d, 0, 2);
                d.swapPlaces(0, 0, 2);
                d.swapPlaces(0, 1, 2);
                Check.due("the rack", Depots.rack(d, 0), "2,0,1,-,-,-");
                bothAre("sorted", d, 0, 0);
            });
        s.says("A swap exchanges the contents of two places of a rack, which can be free")
            .test("with a free place", d -> {
                Depots.into(d, 0, 1, 2);
                d.swapPlaces(0, 0, 3);
                Check.due("the rack", Depots.rack(d, 0), "-,1,-,0,-,-");
                bothAre("back by one swap", d, 0, 1);
            })
            .test("both free", d -> {
                d.addHammer(1, 0);
                Check.due("swaps", d.swapPlaces(0, 3, 5), 0);
                Check.due("the rack", Depots.rack(d, 0), "0,-,-,-,-,-");
            });
    }

    private static void loudness(Sentences s) {
        s.promise(29).says("Returns the loudness of a rack at a pitch", "Returns the loudness.")
            .test("every rack", d -> {
                for (int rack = 0; rack < 3; rack++) {
                    d.addHammer(10 * rack, rack);
                    Check.due("its own hammer", d.loudness(rack, 10 * rack), 8);
                    Check.due("no other hammer", d.loudness(rack, 10 * rack + 10), 0);
                }
            });
        s.says("`pitch`: the pitch, any number")
            .test("far away, where a difference wraps around", d -> {
                Depots.into(d, 0, 0, 24, 60);
                for (int far : new int[] {0, 12, 19, 24, 60, 72, 79, 84}) {
                    Check.due("MIN + " + far, d.loudness(0, Integer.MIN_VALUE + far), 0);
                    Check.due("MAX - " + far, d.loudness(0, Integer.MAX_VALUE - far), 0);
                }
                for (int pitch : new int[] {-1, -12, -60, 85, 1000}) {
                    Check.due("pitch " + pitch, d.loudness(0, pitch), 0);
                }
                Check.due("the highest overtone", d.loudness(0, 84), 1);
            });
        s.says("Throws")
            .test("no such rack", d -> {
                for (int rack : new int[] {-1, 3, Integer.MIN_VALUE, Integer.MAX_VALUE}) {
                    Check.refused("rack " + rack, INDEX, () -> d.loudness(rack, 0));
                }
            });
    }

    private static void loudestPitch(Sentences s) {
        s.promise(30).says("Returns the pitch at which a rack is loudest", "Returns the pitch.")
            .test("the lowest and the highest pitch", d -> {
                d.addHammer(0, 0);
                d.addHammer(60, 1);
                Check.due("0", d.loudestPitch(0), 0);
                Check.due("60", d.loudestPitch(1), 60);
            })
            .test("the lowest of several", d -> {
                Depots.into(d, 0, 50, 20, 41);
                Check.due("of three", d.loudestPitch(0), 20);
                Depots.into(d, 1, 30, 30, 11, 11);
                Check.due("30 sounds once more", d.loudestPitch(1), 30);
            })
            .test("an overtone makes another pitch loudest", d -> {
                Depots.into(d, 0, 20, 32);
                Check.due("12 more", d.loudestPitch(0), 32);
                Depots.into(d, 1, 20, 39);
                Check.due("19 more", d.loudestPitch(1), 39);
                Depots.into(d, 2, 20, 44);
                Check.due("24 more", d.loudestPitch(2), 44);
            })
            .test("a full rack", d -> {
                Depots.into(d, 2, 60, 60, 48, 48, 41, 36);
                Check.due("60", d.loudestPitch(2), 60);
                Check.due("its loudness", d.loudness(2, 60), 8 + 8 + 4 + 4 + 2 + 1);
            });
        s.says("Throws `IndexOutOfBoundsException`")
            .test("no such rack", d -> {
                d.addHammer(30, 0);
                for (int rack : new int[] {-1, 3, Integer.MIN_VALUE, Integer.MAX_VALUE}) {
                    Check.refused("rack " + rack, INDEX, () -> d.loudestPitch(rack));
                }
            });
        s.says("Throws `NoSuchElementException`")
            .test("never used, lent, moved away", d -> {
                Depots.into(d, 0, 30);
                Depots.into(d, 1, 31);
                Check.refused("never used", ELEMENT, () -> d.loudestPitch(2));
                Depots.lend(d, 30, 1);
                Check.refused("lent", ELEMENT, () -> d.loudestPitch(0));
                d.moveHammer(1, 2);
                Check.refused("moved away", ELEMENT, () -> d.loudestPitch(1));
                Check.due("moved here", d.loudestPitch(2), 31);
            });
    }

    private static void consonance(Sentences s) {
        s.promise(31).says("Returns the consonance of two hammers", "Returns the consonance.")
            .test("in both orders, in racks and lent", d -> {
                Depots.into(d, 0, 0, 12);
                Check.due("up", d.consonance(0, 1), 5);
                Check.due("down", d.consonance(1, 0), 5);
                Depots.lend(d, 12, 1);
                Check.due("one is lent", d.consonance(0, 1), 5);
            })
            .test("the lowest and the highest pitch", d -> {
                Depots.into(d, 0, 0, 60, 60);
                Check.due("far", d.consonance(0, 1), 0);
                Check.due("the same pitch", d.consonance(1, 2), 15);
            });
        s.says("`second`: the index of the other hammer, which can be the same")
            .test("the same", d -> {
                Depots.into(d, 0, 0, 60);
                Check.due("hammer 0", d.consonance(0, 0), 15);
                Check.due("hammer 1", d.consonance(1, 1), 15);
            });
        s.says("Throws")
            .test("either index", d -> {
                Check.refused("no hammers", INDEX, () -> d.consonance(0, 0));
                Depots.into(d, 0, 30, 31);
                for (int hammer : new int[] {-1, 2, 12, Integer.MIN_VALUE, Integer.MAX_VALUE}) {
                    Check.refused("first " + hammer, INDEX, () -> d.consonance(hammer, 0));
                    Check.refused("second " + hammer, INDEX, () -> d.consonance(0, hammer));
                    Check.refused("both " + hammer, INDEX, () -> d.consonance(hammer, hammer));
                }
            });
    }

    interface Reader {
        int read(HammerDepot d, int argument);
    }

    private static void bothChords(Sentences s, int promise, String beginning, Reader chord) {
        s.promise(promise).says(beginning, "Returns the consonance.")
            .test("from one hammer to five", d -> {
                Depots.into(d, 0, 0, 12, 24);
                Depots.into(d, 1, 36, 3, 4);
                int[] want = {0, 5, 11, 17, 17};
                for (int size = 1; size <= 5; size++) {
                    Check.due("size " + size, chord.read(d, size), want[size - 1]);
                }
            })
            .test("twelve hammers with one pitch", d -> {
                for (int i = 0; i < 12; i++) {
                    d.addHammer(30, i % 3);
                }
                for (int size = 1; size <= 5; size++) {
                    Check.due("size " + size, chord.read(d, size), 15 * size * (size - 1) / 2);
                }
            })
            .test("twelve hammers without consonance", d -> {
                for (int i = 0; i < 12; i++) {
                    d.addHammer(i < 6 ? 2 * i : 24 + 2 * i, i % 3);
                }
                for (int size = 1; size <= 5; size++) {
                    Check.due("size " + size, chord.read(d, size), 0);
                }
            })
            .test("the best ones are the last ones", d -> {
                for (int i = 0; i < 12; i++) {
                    d.addHammer(i < 7 ? 7 * i % 5 : 60, i % 3);
                }
                Check.due("size 5", chord.read(d, 5), 150);
                Check.due("size 2", chord.read(d, 2), 15);
            })
            .test("of two pairs the one that goes further", d -> {
                Depots.into(d, 0, 60, 60, 12);
                Depots.into(d, 1, 12, 24);
                int[] want = {0, 15, 25, 30, 40};
                for (int size = 1; size <= 5; size++) {
                    Check.due("size " + size, chord.read(d, size), want[size - 1]);
                }
            });
        s.says("Throws `IllegalArgumentException`")
            .test("too small and too large", d -> {
                for (int i = 0; i < 12; i++) {
                    d.addHammer(i, i % 3);
                }
                for (int size : new int[] {0, -1, 6, 12, Integer.MIN_VALUE, Integer.MAX_VALUE}) {
                    Check.refused("size " + size, ARGUMENT, () -> chord.read(d, size));
                }
            });
        s.says("Throws `NoSuchElementException`")
            .test("one too few, and just enough", d -> {
                for (int size = 1; size <= 5; size++) {
                    int wanted = size;
                    Check.refused("size " + size, ELEMENT, () -> chord.read(d, wanted));
                    d.addHammer(10 * size, size % 3);
                    Check.due("size " + size, Check.outcome(() -> chord.read(d, wanted)) instanceof Integer, true);
                }
            })
            .test("lent ones do not count", d -> {
                Depots.into(d, 0, 10, 20, 30);
                Depots.lend(d, 20, 1);
                Check.due("two", chord.read(d, 2), 0);
                Check.refused("three", ELEMENT, () -> chord.read(d, 3));
                d.giveBack(1, 0, 2);
                Check.due("three again", chord.read(d, 3), 0);
            });
    }

    private static void bothSwaps(Sentences s, int promise, String beginning, Reader swaps) {
        s.promise(promise).says(beginning, "Returns the number of swaps")
            .test("an empty rack", d -> Check.due("swaps", swaps.read(d, 2), 0))
            .test("five swaps, the most", d -> {
                Depots.into(d, 0, 2, 3, 4, 5, 6, 1);
                Check.due("a cycle of six", swaps.read(d, 0), 5);
                Depots.into(d, 1, 2, 3, 4, 5, 1);
                Check.due("a cycle of five", swaps.read(d, 1), 4);
                d.swapPlaces(1, 0, 5);
                Check.due("and a free place in it", swaps.read(d, 1), 5);
            })
            .test("closed cycles and open ones", d -> {
                Depots.into(d, 0, 2, 1, 4, 3, 6, 5);
                Check.due("three cycles of two", swaps.read(d, 0), 3);
                Depots.into(d, 1, 2, 1, 3);
                Check.due("a cycle of two", swaps.read(d, 1), 1);
                d.swapPlaces(1, 2, 5);
                Check.due("and an open one", swaps.read(d, 1), 2);
            })
            .test("cycles of places that are no neighbours", d -> {
                Depots.into(d, 0, 3, 2, 1);
                Check.due("one around a sorted hammer", swaps.read(d, 0), 1);
                Depots.into(d, 1, 4, 5, 6, 1, 2, 3);
                Check.due("three that are interlaced", swaps.read(d, 1), 3);
                d.swapPlaces(1, 1, 2);
                Check.due("one of two and one of four", swaps.read(d, 1), 4);
            })
            .test("a cycle that passes a free place is not closed", d -> {
                Depots.into(d, 0, 1, 2, 3);
                d.swapPlaces(0, 0, 3);
                d.swapPlaces(0, 1, 0);
                d.swapPlaces(0, 2, 1);
                Check.due("the rack", Depots.rack(d, 0), "1,2,-,0,-,-");
                Check.due("swaps", swaps.read(d, 0), 3);
            })
            .test("a free place behind the hammers belongs to no cycle", d -> {
                Depots.into(d, 0, 1, 2);
                d.swapPlaces(0, 0, 5);
                d.swapPlaces(0, 1, 4);
                Check.due("the rack", Depots.rack(d, 0), "-,-,-,-,1,0");
                Check.due("swaps", swaps.read(d, 0), 2);
            })
            .test("the order of equal pitches", d -> {
                Depots.into(d, 0, 7, 7, 7);
                d.swapPlaces(0, 0, 1);
                d.swapPlaces(0, 1, 2);
                Check.due("swaps", swaps.read(d, 0), 2);
            })
            .test("it moves nothing", d -> {
                Depots.into(d, 0, 3, 2, 1);
                swaps.read(d, 0);
                Check.due("the rack", Depots.rack(d, 0), "0,1,2,-,-,-");
            });
        s.says("Throws")
            .test("no such rack", d -> {
                for (int rack : new int[] {-1, 3, Integer.MIN_VALUE, Integer.MAX_VALUE}) {
                    Check.refused("rack " + rack, INDEX, () -> swaps.read(d, rack));
                }
            });
    }
}
